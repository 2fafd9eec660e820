
def tX14_count : List q_I := [(0, .aload_n 0, 1, 0, 0), (1, .iconst 0, 1, 0, 0), (2, .putfield 123, 3, 0, 0), (5, .iload_n 1, 1, 0, 0), (6, .bipush 13, 2, 13, 0), (8, .if_icmp .ne 8, 3, 0, 16), (11, .aload_n 0, 1, 0, 0), (12, .getfield 359, 3, 0, 0), (15, .ireturn, 1, 0, 0), (16, .iload_n 1, 1, 0, 0), (17, .iconst 0, 1, 0, 0), (18, .bipush 12, 2, 12, 0), (20, .invokestatic 207, 3, 0, 0), (23, .ifCond .ne 5, 3, 0, 28), (26, .iconst (-1), 1, (-1), 0), (27, .ireturn, 1, 0, 0), (28, .aload_n 0, 1, 0, 0), (29, .getfield 379, 3, 0, 0), (32, .ifnonnull 5, 3, 0, 37), (35, .iconst 0, 1, 0, 0), (36, .ireturn, 1, 0, 0), (37, .iload_n 1, 1, 0, 0), (38, .tableswitch 151 0 11 #[62, 72, 82, 92, 102, 110, 118, 126, 131, 136, 141, 146], 62, 0, 0), (100, .aload_n 0, 1, 0, 0), (101, .getfield 379, 3, 0, 0), (104, .getfield 246, 3, 0, 0), (107, .iconst 0, 1, 0, 0), (108, .iaload, 1, 0, 0), (109, .ireturn, 1, 0, 0), (110, .aload_n 0, 1, 0, 0), (111, .getfield 379, 3, 0, 0), (114, .getfield 246, 3, 0, 0), (117, .iconst 1, 1, 1, 0), (118, .iaload, 1, 0, 0), (119, .ireturn, 1, 0, 0), (120, .aload_n 0, 1, 0, 0), (121, .getfield 379, 3, 0, 0), (124, .getfield 246, 3, 0, 0), (127, .iconst 2, 1, 2, 0), (128, .iaload, 1, 0, 0), (129, .ireturn, 1, 0, 0), (130, .aload_n 0, 1, 0, 0), (131, .getfield 379, 3, 0, 0), (134, .getfield 246, 3, 0, 0), (137, .iconst 3, 1, 3, 0), (138, .iaload, 1, 0, 0), (139, .ireturn, 1, 0, 0), (140, .aload_n 0, 1, 0, 0), (141, .getfield 379, 3, 0, 0), (144, .getfield 255, 3, 0, 0), (147, .ireturn, 1, 0, 0), (148, .aload_n 0, 1, 0, 0), (149, .getfield 379, 3, 0, 0), (152, .getfield 294, 3, 0, 0), (155, .ireturn, 1, 0, 0), (156, .aload_n 0, 1, 0, 0), (157, .getfield 379, 3, 0, 0), (160, .getfield 325, 3, 0, 0), (163, .ireturn, 1, 0, 0), (164, .aload_n 0, 1, 0, 0), (165, .getfield 382, 3, 0, 0), (168, .ireturn, 1, 0, 0), (169, .aload_n 0, 1, 0, 0), (170, .getfield 385, 3, 0, 0), (173, .ireturn, 1, 0, 0), (174, .aload_n 0, 1, 0, 0), (175, .getfield 388, 3, 0, 0), (178, .ireturn, 1, 0, 0), (179, .aload_n 0, 1, 0, 0), (180, .getfield 391, 3, 0, 0), (183, .ireturn, 1, 0, 0), (184, .aload_n 0, 1, 0, 0), (185, .getfield 394, 3, 0, 0), (188, .ireturn, 1, 0, 0), (189, .aload_n 0, 1, 0, 0), (190, .getfield 243, 3, 0, 0), (193, .ireturn, 1, 0, 0)]
theorem tX14_count_ok : (tX14_count.all (q_okI cX14_count)) = true := by decide +kernel

abbrev fdX14_count : List (Nat ⊕ (Nat × Nat)) := [.inl 0, .inr (0, 7), .inr (0, 17), .inr (0, 18), .inr (0, 19), .inr (0, 20), .inr (0, 21), .inr (0, 22), .inr (0, 23), .inr (0, 26), .inr (0, 27), .inr (0, 28), .inr (0, 31), .inr (0, 32), .inr (0, 33), .inr (0, 34), .inr (0, 36), .inr (0, 37), .inr (0, 38), .inr (0, 39), .inr (0, 40), .inr (0, 41), .inr (0, 43), .inr (0, 44), .inr (0, 45), .inr (0, 46), .inr (0, 47), .inr (0, 48), .inr (0, 50), .inr (0, 51), .inr (0, 52), .inr (0, 4), .inr (31, 0), .inr (31, 1), .inr (31, 2), .inr (31, 3), .inr (31, 8), .inr (31, 9), .inr (31, 10), .inr (31, 11), .inr (31, 12), .inr (31, 13), .inr (31, 14), .inr (31, 15), .inr (31, 16), .inr (31, 17), .inr (31, 18), .inr (31, 19), .inr (31, 20), .inr (31, 21), .inr (31, 22), .inr (31, 23), .inr (31, 24), .inr (31, 25), .inr (31, 26), .inr (31, 27), .inr (31, 28)]
def spX14_count : q_P := fun a w K => ∃ (th : Int32) (tr : Int32) (wh : Int32) (fa : Int32) (ta : Nat) (sz : Int32) (ix : Int32) (so : Int32) (pl : Int32) (nu : Int32) (wd : Int64) (td : Int32) (mk : Int32) (mo : Int32) (tx : Nat → Int32) (P : PT) (D : DT) (ea : Nat → Int32) (pa : Nat → Int32) (co : Nat → Int32) (S : ST) (Cc : CT) (V : VT) (ba : Nat → Int32) (B : BT) (R : RT) (L : LT) (G : GT) (x : Int32), w = (modelW 0 (tk 0 5) (tk 0 6) th tr wh fa ta sz ix so pl nu wd td mk mo tx P D ea pa co S Cc V ba B R L G) ∧ a = [.ref 0, .int x] ∧ K (.inl (some (.int (cntI x (B.1 0) (B.1 1) (B.1 2) (B.1 3) (nI R.2.2.2.2.2.2.2) (nI L.2.2.2.2.2.2.2) (nI G.2.2.2.2.2.2.2.2) (nI P.2.2.2.2.2.2) (nI S.2.2.2.2.2.1) (nI Cc.2.2.2.2.2.2.2) (nI V.2.2.2.2.2.2) (nI D.2.2.2) td (nI ta))))) (modelW 0 (tk 0 5) (tk 0 6) (0) tr wh fa ta sz ix so pl nu wd td mk mo tx P D ea pa co S Cc V ba B R L G)
abbrev csX14_count : q_S := (2, 14, 1, 2, 0, 0, fdX14_count, spX14_count)
def EX14_count : q_E := (tX14_count, [], 2, flX14, [(207, csX14_in)], [], [], [], [], [], 1, 0, 0, (some .int), [], [], 0, 0)
theorem okX14_count (l : Launch) : q_Eok l RX14 cX14_count EX14_count := ⟨tX14_count_ok, flX14_ok, List.forall_mem_cons.mpr ⟨(coX14_207 l), q_nil⟩, q_nil, q_nil, q_nil, q_nil, q_nil, (fun h => absurd h (by decide))⟩
set_option maxRecDepth 100000 in
set_option maxHeartbeats 4000000 in
theorem ctX14_count (l : Launch) : q_CT l yX14_count (.code yX14_count cX14_count 2 (some .int)) 1 0 0 spX14_count := by
  refine q_ct_of EX14_count (by decide +kernel) (okX14_count l) rfl rfl rfl rfl rfl q_nil (fun ci h => by cases h) rfl ?_
  intro a w K h
  obtain ⟨th, tr, wh, fa, ta, sz, ix, so, pl, nu, wd, td, mk, mo, tx, P, D, ea, pa, co, S, Cc, V, ba, B, R, L, G, x, rfl, rfl, hK⟩ := h
  refine ⟨Nat.le_of_ble_eq_true rfl, fun C hC => hC _ _ _ _ _ _ ?_⟩
  refine And.intro (fun c13 => ⟨x, 0, 12, rfl, rfl, And.intro (fun c => ?_) (fun c => ?_)⟩) (fun c13 => ?_)
  rotate_left
  · have c := of_decide_eq_false (bI_0.mp c)
    rw [cntI, if_neg (by rintro rfl; revert c; decide), if_neg (by rintro rfl; revert c; decide), if_neg (by rintro rfl; revert c; decide), if_neg (by rintro rfl; revert c; decide), if_neg (by rintro rfl; revert c; decide), if_neg (by rintro rfl; revert c; decide), if_neg (by rintro rfl; revert c; decide), if_neg (by rintro rfl; revert c; decide), if_neg (by rintro rfl; revert c; decide), if_neg (by rintro rfl; revert c; decide), if_neg (by rintro rfl; revert c; decide), if_neg (by rintro rfl; revert c; decide), if_neg (by rintro rfl; revert c; decide), if_neg c13] at hK
    exact hK
  · have c13 : x = nI 13 := c13
    subst c13
    exact hK
  have cc := of_decide_eq_true (bI_n0.mp c)
  refine ⟨?_, ⟨?_, ?_, ?_, ?_, ?_, ?_, ?_, ?_, ?_, ?_, ?_, ?_, trivial⟩, by decide, by decide, by decide⟩
  · intro c
    have h12 : x = nI 12 := by
      apply tI (by decide)
      have h1 := cc.1
      have h2 := cc.2
      rw [Int32.le_iff_toInt_le] at h1 h2
      rw [show (0 : Int32).toInt = 0 by decide] at h1
      rw [show (12 : Int32).toInt = 12 by decide] at h2
      omega
    subst h12
    exact hK
  · intro c
    have c : x = nI 0 := tI (by decide) c
    subst c
    exact ⟨vp_in_nI (n := 0) (by decide) (by decide), hK⟩
  · intro c
    have c : x = nI 1 := tI (by decide) c
    subst c
    exact ⟨vp_in_nI (n := 1) (by decide) (by decide), hK⟩
  · intro c
    have c : x = nI 2 := tI (by decide) c
    subst c
    exact ⟨vp_in_nI (n := 2) (by decide) (by decide), hK⟩
  · intro c
    have c : x = nI 3 := tI (by decide) c
    subst c
    exact ⟨vp_in_nI (n := 3) (by decide) (by decide), hK⟩
  · intro c
    have c : x = nI 4 := tI (by decide) c
    subst c
    exact hK
  · intro c
    have c : x = nI 5 := tI (by decide) c
    subst c
    exact hK
  · intro c
    have c : x = nI 6 := tI (by decide) c
    subst c
    exact hK
  · intro c
    have c : x = nI 7 := tI (by decide) c
    subst c
    exact hK
  · intro c
    have c : x = nI 8 := tI (by decide) c
    subst c
    exact hK
  · intro c
    have c : x = nI 9 := tI (by decide) c
    subst c
    exact hK
  · intro c
    have c : x = nI 10 := tI (by decide) c
    subst c
    exact hK
  · intro c
    have c : x = nI 11 := tI (by decide) c
    subst c
    exact hK
def selI (x1 x2 x3 x4 x5 : Int32) (k : Nat) : Int32 := if k < 4 then x1 else if k < 8 then x2 else if k < 12 then x3 else if k < 16 then x4 else x5
def shI (k : Nat) : Int32 := 24 - 8 * (nI k - nI k / 4 * 4)
def fdM (tx : Nat → Int32) (tl : Nat) (x1 x2 x3 x4 x5 : Int32) : Nat → Nat → Int32
  | 0 => tx
  | k + 1 => upd (fdM tx tl x1 x2 x3 x4 x5 k) (tl + k) (byI (selI x1 x2 x3 x4 x5 k) (shI k))
theorem fdM_eq (tx : Nat → Int32) (tl : Nat) (x1 x2 x3 x4 x5 : Int32) : fdM tx tl x1 x2 x3 x4 x5 20 = feedF tx tl x1 x2 x3 x4 x5 := by
  have h : ∀ k, k < 20 → shI k = [24, 16, 8, 0, 24, 16, 8, 0, 24, 16, 8, 0, 24, 16, 8, 0, 24, 16, 8, 0].getD k 0 := by decide +kernel
  simp only [fdM, h 0 (by decide), h 1 (by decide), h 2 (by decide), h 3 (by decide), h 4 (by decide), h 5 (by decide), h 6 (by decide), h 7 (by decide), h 8 (by decide), h 9 (by decide), h 10 (by decide), h 11 (by decide), h 12 (by decide), h 13 (by decide), h 14 (by decide), h 15 (by decide), h 16 (by decide), h 17 (by decide), h 18 (by decide), h 19 (by decide)]
  rfl
def modelF (th : Int32) (ta : Nat) (tr wh fa sz ix so pl nu : Int32) (wd : Int64) (td pn mk mo sn bo jn qn cn : Int32) (bk fr : Value) (tx : Nat → Int32) : List q_C := modelU th tr wh fa (nI ta) sz ix so pl nu wd td pn mk mo sn bo jn qn cn bk fr tx
def tX14_feed : List q_I := [(0, .aload_n 0, 1, 0, 0), (1, .iconst 0, 1, 0, 0), (2, .putfield 123, 3, 0, 0), (5, .aload_n 0, 1, 0, 0), (6, .getfield 359, 3, 0, 0), (9, .bipush 20, 2, 20, 0), (11, .iadd, 1, 0, 0), (12, .sipush 700, 3, 700, 0), (15, .if_icmp .le 5, 3, 0, 20), (18, .iconst (-1), 1, (-1), 0), (19, .ireturn, 1, 0, 0), (20, .iconst 0, 1, 0, 0), (21, .istore 6, 2, 0, 0), (23, .iload 6, 2, 0, 0), (25, .bipush 20, 2, 20, 0), (27, .if_icmp .ge 90, 3, 0, 117), (30, .iload 6, 2, 0, 0), (32, .iconst 4, 1, 4, 0), (33, .if_icmp .ge 7, 3, 0, 40), (36, .iload_n 1, 1, 0, 0), (37, .goto 39, 3, 0, 76), (40, .iload 6, 2, 0, 0), (42, .bipush 8, 2, 8, 0), (44, .if_icmp .ge 7, 3, 0, 51), (47, .iload_n 2, 1, 0, 0), (48, .goto 28, 3, 0, 76), (51, .iload 6, 2, 0, 0), (53, .bipush 12, 2, 12, 0), (55, .if_icmp .ge 7, 3, 0, 62), (58, .iload_n 3, 1, 0, 0), (59, .goto 17, 3, 0, 76), (62, .iload 6, 2, 0, 0), (64, .bipush 16, 2, 16, 0), (66, .if_icmp .ge 8, 3, 0, 74), (69, .iload 4, 2, 0, 0), (71, .goto 5, 3, 0, 76), (74, .iload 5, 2, 0, 0), (76, .istore 7, 2, 0, 0), (78, .aload_n 0, 1, 0, 0), (79, .getfield 20, 3, 0, 0), (82, .aload_n 0, 1, 0, 0), (83, .getfield 359, 3, 0, 0), (86, .iload 7, 2, 0, 0), (88, .bipush 24, 2, 24, 0), (90, .bipush 8, 2, 8, 0), (92, .iload 6, 2, 0, 0), (94, .iconst 4, 1, 4, 0), (95, .irem, 1, 0, 0), (96, .imul, 1, 0, 0), (97, .isub, 1, 0, 0), (98, .ishr, 1, 0, 0), (99, .i2b, 1, 0, 0), (100, .bastore, 1, 0, 0), (101, .aload_n 0, 1, 0, 0), (102, .dup, 1, 0, 0), (103, .getfield 359, 3, 0, 0), (106, .iconst 1, 1, 1, 0), (107, .iadd, 1, 0, 0), (108, .putfield 359, 3, 0, 0), (111, .iinc 6 1, 3, 1, 0), (114, .goto (-91), 3, 0, 23), (117, .aload_n 0, 1, 0, 0), (118, .getfield 359, 3, 0, 0), (121, .ireturn, 1, 0, 0)]
theorem tX14_feed_ok : (tX14_feed.all (q_okI cX14_feed)) = true := by decide +kernel

abbrev fdX14_feed : List (Nat ⊕ (Nat × Nat)) := [.inl 0, .inr (0, 7), .inr (0, 17), .inr (0, 18), .inr (0, 19), .inr (0, 20), .inr (0, 21), .inr (0, 22), .inr (0, 23), .inr (0, 26), .inr (0, 27), .inr (0, 28), .inr (0, 31), .inr (0, 32), .inr (0, 33), .inr (0, 34), .inr (0, 36), .inr (0, 37), .inr (0, 38), .inr (0, 39), .inr (0, 40), .inr (0, 41), .inr (0, 43), .inr (0, 44), .inr (0, 45), .inr (0, 46), .inr (0, 47), .inr (0, 48), .inr (0, 50), .inr (0, 51), .inr (0, 52), .inr (0, 4), .inr (31, 0), .inr (31, 1), .inr (31, 2), .inr (31, 3), .inr (31, 8), .inr (31, 9), .inr (31, 10), .inr (31, 11), .inr (31, 12), .inr (31, 13), .inr (31, 14), .inr (31, 15), .inr (31, 16), .inr (31, 17), .inr (31, 18), .inr (31, 19), .inr (31, 20), .inr (31, 21), .inr (31, 22), .inr (31, 23), .inr (31, 24), .inr (31, 25), .inr (31, 26), .inr (31, 27), .inr (31, 28)]
def spX14_feed : q_P := fun a w K => ∃ (th : Int32) (tr : Int32) (wh : Int32) (fa : Int32) (ta : Nat) (sz : Int32) (ix : Int32) (so : Int32) (pl : Int32) (nu : Int32) (wd : Int64) (td : Int32) (mk : Int32) (mo : Int32) (tx : Nat → Int32) (P : PT) (D : DT) (ea : Nat → Int32) (pa : Nat → Int32) (co : Nat → Int32) (S : ST) (Cc : CT) (V : VT) (ba : Nat → Int32) (B : BT) (R : RT) (L : LT) (G : GT) (x1 x2 x3 x4 x5 : Int32), w = (modelW 0 (tk 0 5) (tk 0 6) th tr wh fa ta sz ix so pl nu wd td mk mo tx P D ea pa co S Cc V ba B R L G) ∧ a = [.ref 0, .int x1, .int x2, .int x3, .int x4, .int x5] ∧ ta ≤ 700 ∧ (if ta + 20 ≤ 700 then K (.inl (some (.int (nI (ta + 20))))) (modelW 0 (tk 0 5) (tk 0 6) (0) tr wh fa (ta + 20) sz ix so pl nu wd td mk mo (feedF tx ta x1 x2 x3 x4 x5) P D ea pa co S Cc V ba B R L G) else K (.inl (some (.int (-1)))) (modelW 0 (tk 0 5) (tk 0 6) (0) tr wh fa ta sz ix so pl nu wd td mk mo tx P D ea pa co S Cc V ba B R L G))
abbrev csX14_feed : q_S := (6, 14, 0, 8, 0, 0, fdX14_feed, spX14_feed)
def EX14_feed : q_E := (tX14_feed, [(23, [0, 1, 2, 3, 4, 5, 6]), (76, [0, 1, 2, 3, 4, 5, 6])], 8, flX14, [], [], [], [], [], [], 0, 0, 0, (some .int), [], [], 0, 0)
theorem okX14_feed (l : Launch) : q_Eok l RX14 cX14_feed EX14_feed := ⟨tX14_feed_ok, flX14_ok, q_nil, q_nil, q_nil, q_nil, q_nil, q_nil, (fun h => absurd h (by decide))⟩
set_option maxRecDepth 100000 in
set_option maxHeartbeats 4000000 in
theorem ctX14_feed (l : Launch) : q_CT l yX14_feed (.code yX14_feed cX14_feed 8 (some .int)) 0 0 0 spX14_feed := by
  refine q_ct_of EX14_feed (by decide +kernel) (okX14_feed l) rfl rfl rfl rfl rfl q_nil (fun ci h => by cases h) rfl ?_
  intro a w K h
  obtain ⟨th, tr, wh, fa, ta, sz, ix, so, pl, nu, wd, td, mk, mo, tx, P, D, ea, pa, co, S, Cc, V, ba, B, R, L, G, x1, x2, x3, x4, x5, rfl, rfl, ht, hK⟩ := h
  have e : nI ta + 20 = nI (ta + 20) := nI_add ta 20
  refine ⟨Nat.le_of_ble_eq_true rfl, fun C hC => hC _ _ _ _ _ _ ?_⟩
  refine And.intro (fun c => ?_) (fun c => ?_)
  · have h9 : ta + 20 ≤ 700 := by
      rcases Nat.lt_or_ge 700 (ta + 20) with z | z
      · exact absurd (show nI (ta + 20) ≤ nI 700 from e ▸ c) (nI_ge z (by omega))
      · exact z
    rw [if_pos h9, ← fdM_eq] at hK
    have loop : ∀ j k, k + j = 20 → C 23 [(0, .ref 0), (1, .int x1), (2, .int x2), (3, .int x3), (4, .int x4), (5, .int x5), (6, .int (nI k))] [] (modelW 0 (tk 0 5) (tk 0 6) (0) tr wh fa (ta + k) sz ix so pl nu wd td mk mo (fdM tx ta x1 x2 x3 x4 x5 k) P D ea pa co S Cc V ba B R L G) 0 0 := by
      intro j
      induction j with
      | zero =>
        intro k hk
        have hk : k = 20 := hk
        subst hk
        exact hC _ _ _ _ _ _ (And.intro (fun _ => hK) (fun z => absurd (show (20 : Int32) ≤ nI 20 by decide) z))
      | succ j ih =>
        intro k hk
        have h8 := ih (k + 1) (by omega)
        rw [fdM, ← nI_1] at h8
        have hv : vp_in (nI (ta + k)) 700 := vp_in_nI (by omega) (by omega)
        have hc : (nI (ta + k)).toNatClampNeg = ta + k := nI_clamp (by omega)
        have fin : C 76 [(0, .ref 0), (1, .int x1), (2, .int x2), (3, .int x3), (4, .int x4), (5, .int x5), (6, .int (nI k))] [.int (selI x1 x2 x3 x4 x5 k)] (modelW 0 (tk 0 5) (tk 0 6) (0) tr wh fa (ta + k) sz ix so pl nu wd td mk mo (fdM tx ta x1 x2 x3 x4 x5 k) P D ea pa co S Cc V ba B R L G) 0 0 := by
          refine hC _ _ _ _ _ _ ⟨by decide, hv, ?_⟩
          rw [hc]
          unfold modelW modelA at h8
          rw [show nI (ta + (k + 1)) = nI (ta + k) + 1 from (nI_1 _).symm] at h8
          exact h8
        have p4 : ∀ b, b ≤ 20 → ¬ nI b ≤ nI k → k < b := fun b hb z => lt_of_nI (by omega) (by omega) z
        have n4 : ∀ b, b ≤ 20 → nI b ≤ nI k → ¬ k < b := fun b hb z => Nat.not_lt.mpr (le_of_nI (by omega) (by omega) z)
        refine hC _ _ _ _ _ _ (And.intro (fun z => absurd z (nI_ge (b := 20) (by omega) (by omega))) (fun _ => And.intro (fun c1 => And.intro (fun c2 => And.intro (fun c3 => And.intro (fun c4 => ?_) (fun c4 => ?_)) (fun c3 => ?_)) (fun c2 => ?_)) (fun c1 => ?_)))
        · rw [selI, if_neg (n4 4 (by decide) c1), if_neg (n4 8 (by decide) c2), if_neg (n4 12 (by decide) c3), if_neg (n4 16 (by decide) c4)] at fin; exact fin
        · rw [selI, if_neg (n4 4 (by decide) c1), if_neg (n4 8 (by decide) c2), if_neg (n4 12 (by decide) c3), if_pos (p4 16 (by decide) c4)] at fin; exact fin
        · rw [selI, if_neg (n4 4 (by decide) c1), if_neg (n4 8 (by decide) c2), if_pos (p4 12 (by decide) c3)] at fin; exact fin
        · rw [selI, if_neg (n4 4 (by decide) c1), if_pos (p4 8 (by decide) c2)] at fin; exact fin
        · rw [selI, if_pos (p4 4 (by decide) c1)] at fin; exact fin
    exact loop 20 0 (by omega)
  · rw [if_neg (fun z => absurd (show nI ta + 20 ≤ 700 from e.symm ▸ nI_le (b := 700) z (by omega)) c)] at hK
    exact hK
def vOk (V : VT) : Prop := ∀ t, t < 9 → V.1 t = nI (tcF V.1 t) ∧ tcF V.1 t ≤ 4
theorem nI_4m (p : Nat) : 4 * nI p = nI (p * 4) := by rw [Int32.mul_comm, nI_mul4]
def tX14_clause : List q_I := [(0, .aload_n 0, 1, 0, 0), (1, .iconst 0, 1, 0, 0), (2, .putfield 123, 3, 0, 0), (5, .aload_n 0, 1, 0, 0), (6, .getfield 379, 3, 0, 0), (9, .ifnull 13, 3, 0, 22), (12, .iload_n 1, 1, 0, 0), (13, .iconst 0, 1, 0, 0), (14, .bipush 8, 2, 8, 0), (16, .invokestatic 207, 3, 0, 0), (19, .ifCond .ne 9, 3, 0, 28), (22, .aload_n 0, 1, 0, 0), (23, .iconst 1, 1, 1, 0), (24, .invokevirtual 365, 3, 0, 0), (27, .ireturn, 1, 0, 0), (28, .iload_n 2, 1, 0, 0), (29, .iconst 0, 1, 0, 0), (30, .ldc_w 490, 3, 0, 0), (33, .invokestatic 207, 3, 0, 0), (36, .ifCond .ne 9, 3, 0, 45), (39, .aload_n 0, 1, 0, 0), (40, .iconst 2, 1, 2, 0), (41, .invokevirtual 365, 3, 0, 0), (44, .ireturn, 1, 0, 0), (45, .aload_n 0, 1, 0, 0), (46, .getfield 96, 3, 0, 0), (49, .iload_n 1, 1, 0, 0), (50, .iaload, 1, 0, 0), (51, .iconst 4, 1, 4, 0), (52, .if_icmp .ne 9, 3, 0, 61), (55, .aload_n 0, 1, 0, 0), (56, .iconst 3, 1, 3, 0), (57, .invokevirtual 365, 3, 0, 0), (60, .ireturn, 1, 0, 0), (61, .aload_n 0, 1, 0, 0), (62, .getfield 99, 3, 0, 0), (65, .iconst 4, 1, 4, 0), (66, .iload_n 1, 1, 0, 0), (67, .imul, 1, 0, 0), (68, .aload_n 0, 1, 0, 0), (69, .getfield 96, 3, 0, 0), (72, .iload_n 1, 1, 0, 0), (73, .iaload, 1, 0, 0), (74, .iadd, 1, 0, 0), (75, .iload_n 2, 1, 0, 0), (76, .iastore, 1, 0, 0), (77, .aload_n 0, 1, 0, 0), (78, .getfield 96, 3, 0, 0), (81, .iload_n 1, 1, 0, 0), (82, .dup2, 1, 0, 0), (83, .iaload, 1, 0, 0), (84, .iconst 1, 1, 1, 0), (85, .iadd, 1, 0, 0), (86, .iastore, 1, 0, 0), (87, .aload_n 0, 1, 0, 0), (88, .aload_n 0, 1, 0, 0), (89, .getfield 96, 3, 0, 0), (92, .iload_n 1, 1, 0, 0), (93, .iaload, 1, 0, 0), (94, .iconst 1, 1, 1, 0), (95, .isub, 1, 0, 0), (96, .invokevirtual 397, 3, 0, 0), (99, .ireturn, 1, 0, 0)]
theorem tX14_clause_ok : (tX14_clause.all (q_okI cX14_clause)) = true := by decide +kernel

abbrev fdX14_clause : List (Nat ⊕ (Nat × Nat)) := [.inl 0, .inr (0, 7), .inr (0, 17), .inr (0, 18), .inr (0, 19), .inr (0, 20), .inr (0, 21), .inr (0, 22), .inr (0, 23), .inr (0, 26), .inr (0, 27), .inr (0, 28), .inr (0, 31), .inr (0, 32), .inr (0, 33), .inr (0, 34), .inr (0, 36), .inr (0, 37), .inr (0, 38), .inr (0, 39), .inr (0, 40), .inr (0, 41), .inr (0, 43), .inr (0, 44), .inr (0, 45), .inr (0, 46), .inr (0, 47), .inr (0, 48), .inr (0, 50), .inr (0, 51), .inr (0, 52), .inr (0, 4), .inr (31, 0), .inr (31, 1), .inr (31, 2), .inr (31, 3), .inr (31, 8), .inr (31, 9), .inr (31, 10), .inr (31, 11), .inr (31, 12), .inr (31, 13), .inr (31, 14), .inr (31, 15), .inr (31, 16), .inr (31, 17), .inr (31, 18), .inr (31, 19), .inr (31, 20), .inr (31, 21), .inr (31, 22), .inr (31, 23), .inr (31, 24), .inr (31, 25), .inr (31, 26), .inr (31, 27), .inr (31, 28)]
def spX14_clause : q_P := fun a w K => ∃ (th : Int32) (tr : Int32) (wh : Int32) (fa : Int32) (ta : Nat) (sz : Int32) (ix : Int32) (so : Int32) (pl : Int32) (nu : Int32) (wd : Int64) (td : Int32) (mk : Int32) (mo : Int32) (tx : Nat → Int32) (P : PT) (D : DT) (ea : Nat → Int32) (pa : Nat → Int32) (co : Nat → Int32) (S : ST) (Cc : CT) (V : VT) (ba : Nat → Int32) (B : BT) (R : RT) (L : LT) (G : GT) (t x : Int32), w = (modelW 0 (tk 0 5) (tk 0 6) th tr wh fa ta sz ix so pl nu wd td mk mo tx P D ea pa co S Cc V ba B R L G) ∧ a = [.ref 0, .int t, .int x] ∧ vOk V ∧ (if thB t = true then (if x < 0 ∨ 65535 < x then K (.inl (some (.int (-1)))) (modelW 0 (tk 0 5) (tk 0 6) (0) (2) (-1) fa ta sz ix so pl nu wd td mk mo tx P D ea pa co S Cc V ba B R L G) else (if tcF V.1 t.toNatClampNeg < 4 then K (.inl (some (.int (nI (tcF V.1 t.toNatClampNeg))))) (modelW 0 (tk 0 5) (tk 0 6) (0) (0) (-1) fa ta sz ix so pl nu wd td mk mo tx P D ea pa co S Cc ((upd V.1 t.toNatClampNeg (nI (tcF V.1 t.toNatClampNeg + 1)), upd V.2.1 (t.toNatClampNeg * 4 + tcF V.1 t.toNatClampNeg) x, V.2.2)) ba B R L G) else K (.inl (some (.int (-1)))) (modelW 0 (tk 0 5) (tk 0 6) (0) (3) (-1) fa ta sz ix so pl nu wd td mk mo tx P D ea pa co S Cc V ba B R L G))) else K (.inl (some (.int (-1)))) (modelW 0 (tk 0 5) (tk 0 6) (0) (1) (-1) fa ta sz ix so pl nu wd td mk mo tx P D ea pa co S Cc V ba B R L G))
abbrev csX14_clause : q_S := (3, 14, 1, 3, 0, 0, fdX14_clause, spX14_clause)
def EX14_clause : q_E := (tX14_clause, [], 3, flX14, [(207, csX14_in), (365, csX14_refused), (397, csX14_done)], [], [(490, 65535)], [], [], [], 1, 0, 0, (some .int), [], [], 0, 0)
theorem okX14_clause (l : Launch) : q_Eok l RX14 cX14_clause EX14_clause := ⟨tX14_clause_ok, flX14_ok, List.forall_mem_cons.mpr ⟨(coX14_207 l), List.forall_mem_cons.mpr ⟨(coX14_365 l), List.forall_mem_cons.mpr ⟨(coX14_397 l), q_nil⟩⟩⟩, q_nil, List.forall_mem_cons.mpr ⟨q_G_i 1879 (by decide +kernel) rfl, q_nil⟩, q_nil, q_nil, q_nil, (fun h => absurd h (by decide))⟩
set_option maxRecDepth 100000 in
set_option maxHeartbeats 4000000 in
theorem ctX14_clause (l : Launch) : q_CT l yX14_clause (.code yX14_clause cX14_clause 3 (some .int)) 1 0 0 spX14_clause := by
  refine q_ct_of EX14_clause (by decide +kernel) (okX14_clause l) rfl rfl rfl rfl rfl q_nil (fun ci h => by cases h) rfl ?_
  intro a w K h
  obtain ⟨th, tr, wh, fa, ta, sz, ix, so, pl, nu, wd, td, mk, mo, tx, P, D, ea, pa, co, S, Cc, V, ba, B, R, L, G, t, x, rfl, rfl, ho, hK⟩ := h
  refine ⟨Nat.le_of_ble_eq_true rfl, fun C hC => hC _ _ _ _ _ _ ?_⟩
  have ht8 : inB t 0 8 = thB t := by
    unfold inB thB
    apply decide_eq_decide.mpr
    rw [Int32.le_iff_toInt_le, Int32.le_iff_toInt_le, Int32.lt_iff_toInt_lt, show (8 : Int32).toInt = 8 by decide, show (9 : Int32).toInt = 9 by decide]
    omega
  refine ⟨t, 0, 8, rfl, rfl, ?_⟩
  rw [ht8]
  refine And.intro (fun c => ?_) (fun c => ?_)
  rotate_left
  · rw [if_neg (by rw [bI_0.mp c]; decide)] at hK
    exact ⟨_, _, _, _, _, _, _, _, _, _, _, _, _, _, _, _, _, _, _, _, _, _, _, _, rfl, rfl, hK⟩
  have c2 := bI_n0.mp c
  rw [if_pos c2] at hK
  obtain ⟨t, rfl, ht⟩ := inI (n := 9) (by omega) (of_decide_eq_true c2)
  have hct : (nI t).toNatClampNeg = t := nI_clamp (by omega)
  have hv : vp_in (nI t) 9 := vp_in_nI ht (by omega)
  obtain ⟨o1, o2⟩ := ho t ht
  rw [hct] at hK
  refine ⟨x, 0, 65535, rfl, rfl, And.intro (fun c3 => ?_) (fun c3 => ?_)⟩
  rotate_left
  · rw [if_pos (in_ex (of_decide_eq_false (bI_0.mp c3)))] at hK
    exact ⟨_, _, _, _, _, _, _, _, _, _, _, _, _, _, _, _, _, _, _, _, _, _, _, _, rfl, rfl, hK⟩
  rw [if_neg (in_nx (of_decide_eq_true (bI_n0.mp c3)))] at hK
  refine ⟨hv, And.intro (fun c5 => ?_) (fun c5 => ?_)⟩
  · rw [hct, o1] at c5
    have h9 : tcF V.1 t < 4 := by
      rcases Nat.lt_or_ge (tcF V.1 t) 4 with z | z
      · exact z
      · exact absurd (show nI (tcF V.1 t) = nI 4 by rw [Nat.le_antisymm o2 z]) c5
    rw [if_pos h9] at hK
    have e : 4 * nI t + V.1 (nI t).toNatClampNeg = nI (t * 4 + tcF V.1 t) := by rw [nI_4m, hct, o1, nI_add]
    have hv2 : vp_in (4 * nI t + V.1 (nI t).toNatClampNeg) 36 := by rw [e]; exact vp_in_nI (by omega) (by omega)
    have hc2 : (nI (t * 4 + tcF V.1 t)).toNatClampNeg = t * 4 + tcF V.1 t := nI_clamp (by omega)
    have hK : K (.inl (some (.int (nI (tcF V.1 t + 1) - 1)))) (modelW 0 (tk 0 5) (tk 0 6) (0) (0) (-1) fa ta sz ix so pl nu wd td mk mo tx P D ea pa co S Cc ((upd V.1 t (nI (tcF V.1 t + 1)), upd V.2.1 (t * 4 + tcF V.1 t) x, V.2.2)) ba B R L G) := by rw [nI_pred]; exact hK
    refine ⟨hv, hv2, hv, hv, hv, _, _, _, _, _, _, _, _, _, _, _, _, _, _, _, _, _, _, _, _, _, _, _, _, rfl, rfl, ?_⟩
    rw [e, hc2, hct, o1, nI_1, upd_eq]
    exact hK
  · rw [hct, o1] at c5
    rw [if_neg (c := tcF V.1 t < 4) (fun z => nI_ne (b := 4) (by omega) (by omega) (by omega) c5)] at hK
    exact ⟨_, _, _, _, _, _, _, _, _, _, _, _, _, _, _, _, _, _, _, _, _, _, _, _, rfl, rfl, hK⟩
def tX14_quarrel : List q_I := [(0, .aload_n 0, 1, 0, 0), (1, .iconst 0, 1, 0, 0), (2, .putfield 123, 3, 0, 0), (5, .aload_n 0, 1, 0, 0), (6, .getfield 379, 3, 0, 0), (9, .ifnonnull 9, 3, 0, 18), (12, .aload_n 0, 1, 0, 0), (13, .iconst 1, 1, 1, 0), (14, .invokevirtual 365, 3, 0, 0), (17, .ireturn, 1, 0, 0), (18, .iload_n 1, 1, 0, 0), (19, .iconst 0, 1, 0, 0), (20, .bipush 15, 2, 15, 0), (22, .invokestatic 207, 3, 0, 0), (25, .ifCond .eq 13, 3, 0, 38), (28, .iload_n 2, 1, 0, 0), (29, .iconst 0, 1, 0, 0), (30, .bipush 15, 2, 15, 0), (32, .invokestatic 207, 3, 0, 0), (35, .ifCond .ne 9, 3, 0, 44), (38, .aload_n 0, 1, 0, 0), (39, .iconst 2, 1, 2, 0), (40, .invokevirtual 365, 3, 0, 0), (43, .ireturn, 1, 0, 0), (44, .aload_n 0, 1, 0, 0), (45, .getfield 391, 3, 0, 0), (48, .bipush 20, 2, 20, 0), (50, .if_icmp .ne 9, 3, 0, 59), (53, .aload_n 0, 1, 0, 0), (54, .iconst 3, 1, 3, 0), (55, .invokevirtual 365, 3, 0, 0), (58, .ireturn, 1, 0, 0), (59, .aload_n 0, 1, 0, 0), (60, .getfield 102, 3, 0, 0), (63, .aload_n 0, 1, 0, 0), (64, .getfield 391, 3, 0, 0), (67, .iload_n 1, 1, 0, 0), (68, .iastore, 1, 0, 0), (69, .aload_n 0, 1, 0, 0), (70, .getfield 105, 3, 0, 0), (73, .aload_n 0, 1, 0, 0), (74, .getfield 391, 3, 0, 0), (77, .iload_n 2, 1, 0, 0), (78, .iastore, 1, 0, 0), (79, .aload_n 0, 1, 0, 0), (80, .dup, 1, 0, 0), (81, .getfield 391, 3, 0, 0), (84, .iconst 1, 1, 1, 0), (85, .iadd, 1, 0, 0), (86, .putfield 391, 3, 0, 0), (89, .aload_n 0, 1, 0, 0), (90, .aload_n 0, 1, 0, 0), (91, .getfield 391, 3, 0, 0), (94, .invokevirtual 397, 3, 0, 0), (97, .ireturn, 1, 0, 0)]
theorem tX14_quarrel_ok : (tX14_quarrel.all (q_okI cX14_quarrel)) = true := by decide +kernel

abbrev fdX14_quarrel : List (Nat ⊕ (Nat × Nat)) := [.inl 0, .inr (0, 7), .inr (0, 17), .inr (0, 18), .inr (0, 19), .inr (0, 20), .inr (0, 21), .inr (0, 22), .inr (0, 23), .inr (0, 26), .inr (0, 27), .inr (0, 28), .inr (0, 31), .inr (0, 32), .inr (0, 33), .inr (0, 34), .inr (0, 36), .inr (0, 37), .inr (0, 38), .inr (0, 39), .inr (0, 40), .inr (0, 41), .inr (0, 43), .inr (0, 44), .inr (0, 45), .inr (0, 46), .inr (0, 47), .inr (0, 48), .inr (0, 50), .inr (0, 51), .inr (0, 52), .inr (0, 4), .inr (31, 0), .inr (31, 1), .inr (31, 2), .inr (31, 3), .inr (31, 8), .inr (31, 9), .inr (31, 10), .inr (31, 11), .inr (31, 12), .inr (31, 13), .inr (31, 14), .inr (31, 15), .inr (31, 16), .inr (31, 17), .inr (31, 18), .inr (31, 19), .inr (31, 20), .inr (31, 21), .inr (31, 22), .inr (31, 23), .inr (31, 24), .inr (31, 25), .inr (31, 26), .inr (31, 27), .inr (31, 28)]
def spX14_quarrel : q_P := fun a w K => ∃ (th : Int32) (tr : Int32) (wh : Int32) (fa : Int32) (ta : Nat) (sz : Int32) (ix : Int32) (so : Int32) (pl : Int32) (nu : Int32) (wd : Int64) (td : Int32) (mk : Int32) (mo : Int32) (tx : Nat → Int32) (P : PT) (D : DT) (ea : Nat → Int32) (pa : Nat → Int32) (co : Nat → Int32) (S : ST) (Cc : CT) (V : VT) (ba : Nat → Int32) (B : BT) (R : RT) (L : LT) (G : GT) (x y : Int32), w = (modelW 0 (tk 0 5) (tk 0 6) th tr wh fa ta sz ix so pl nu wd td mk mo tx P D ea pa co S Cc V ba B R L G) ∧ a = [.ref 0, .int x, .int y] ∧ V.2.2.2.2.2.2 ≤ 20 ∧ (if (wdB x && wdB y) = true then (if V.2.2.2.2.2.2 < 20 then K (.inl (some (.int (nI (V.2.2.2.2.2.2 + 1))))) (modelW 0 (tk 0 5) (tk 0 6) (0) (0) (-1) fa ta sz ix so pl nu wd td mk mo tx P D ea pa co S Cc ((V.1, V.2.1, upd V.2.2.1 V.2.2.2.2.2.2 x, upd V.2.2.2.1 V.2.2.2.2.2.2 y, V.2.2.2.2.1, V.2.2.2.2.2.1, V.2.2.2.2.2.2 + 1)) ba B R L G) else K (.inl (some (.int (-1)))) (modelW 0 (tk 0 5) (tk 0 6) (0) (3) (-1) fa ta sz ix so pl nu wd td mk mo tx P D ea pa co S Cc V ba B R L G)) else K (.inl (some (.int (-1)))) (modelW 0 (tk 0 5) (tk 0 6) (0) (2) (-1) fa ta sz ix so pl nu wd td mk mo tx P D ea pa co S Cc V ba B R L G))
abbrev csX14_quarrel : q_S := (3, 14, 1, 3, 0, 0, fdX14_quarrel, spX14_quarrel)
def EX14_quarrel : q_E := (tX14_quarrel, [], 3, flX14, [(365, csX14_refused), (207, csX14_in), (397, csX14_done)], [], [], [], [], [], 1, 0, 0, (some .int), [], [], 0, 0)
theorem okX14_quarrel (l : Launch) : q_Eok l RX14 cX14_quarrel EX14_quarrel := ⟨tX14_quarrel_ok, flX14_ok, List.forall_mem_cons.mpr ⟨(coX14_365 l), List.forall_mem_cons.mpr ⟨(coX14_207 l), List.forall_mem_cons.mpr ⟨(coX14_397 l), q_nil⟩⟩⟩, q_nil, q_nil, q_nil, q_nil, q_nil, (fun h => absurd h (by decide))⟩
set_option maxRecDepth 100000 in
set_option maxHeartbeats 4000000 in
theorem ctX14_quarrel (l : Launch) : q_CT l yX14_quarrel (.code yX14_quarrel cX14_quarrel 3 (some .int)) 1 0 0 spX14_quarrel := by
  refine q_ct_of EX14_quarrel (by decide +kernel) (okX14_quarrel l) rfl rfl rfl rfl rfl q_nil (fun ci h => by cases h) rfl ?_
  intro a w K h
  obtain ⟨th, tr, wh, fa, ta, sz, ix, so, pl, nu, wd, td, mk, mo, tx, P, D, ea, pa, co, S, Cc, V, ba, B, R, L, G, x, y, rfl, rfl, hq, hK⟩ := h
  have hw : ∀ t : Int32, inB t 0 15 = wdB t := by
    intro t
    unfold inB wdB
    apply decide_eq_decide.mpr
    rw [Int32.le_iff_toInt_le, Int32.le_iff_toInt_le, Int32.lt_iff_toInt_lt, show (15 : Int32).toInt = 15 by decide, show (16 : Int32).toInt = 16 by decide]
    omega
  refine ⟨Nat.le_of_ble_eq_true rfl, fun C hC => hC _ _ _ _ _ _ ?_⟩
  refine ⟨x, 0, 15, rfl, rfl, ?_⟩
  rw [hw]
  refine And.intro (fun c => ?_) (fun c => ⟨y, 0, 15, rfl, rfl, ?_⟩)
  · rw [bI_0.mp c] at hK
    exact ⟨_, _, _, _, _, _, _, _, _, _, _, _, _, _, _, _, _, _, _, _, _, _, _, _, rfl, rfl, hK⟩
  rw [hw]
  rw [bI_n0.mp c, Bool.true_and] at hK
  refine And.intro (fun c2 => ?_) (fun c2 => ?_)
  rotate_left
  · rw [if_neg (by rw [bI_0.mp c2]; decide)] at hK
    exact ⟨_, _, _, _, _, _, _, _, _, _, _, _, _, _, _, _, _, _, _, _, _, _, _, _, rfl, rfl, hK⟩
  rw [if_pos (bI_n0.mp c2)] at hK
  refine And.intro (fun c5 => ?_) (fun c5 => ?_)
  · have h9 : V.2.2.2.2.2.2 < 20 := by
      rcases Nat.lt_or_ge V.2.2.2.2.2.2 20 with z | z
      · exact z
      · exact absurd (show nI V.2.2.2.2.2.2 = nI 20 by rw [Nat.le_antisymm hq z]) c5
    rw [if_pos h9] at hK
    have hv : vp_in (nI V.2.2.2.2.2.2) 20 := vp_in_nI h9 (by omega)
    have hc : (nI V.2.2.2.2.2.2).toNatClampNeg = V.2.2.2.2.2.2 := nI_clamp (by omega)
    refine ⟨hv, hv, _, _, _, _, _, _, _, _, _, _, _, _, _, _, _, _, _, _, _, _, _, _, _, _, rfl, rfl, ?_⟩
    rw [hc, nI_1]
    exact hK
  · rw [if_neg (c := V.2.2.2.2.2.2 < 20) (fun z => nI_ne (b := 20) (by omega) (by omega) (by omega) c5)] at hK
    exact ⟨_, _, _, _, _, _, _, _, _, _, _, _, _, _, _, _, _, _, _, _, _, _, _, _, rfl, rfl, hK⟩
