/-- a number behind a keyword -/
def kwNumK {α : Type} (tx : Nat → Int32) (t : Nat) (lo hi u : Int32) (N : NT) (k : Int32 → NT → α) : α :=
  if u = -1 then k (-1) N else if seeB tx N (kb t) = true then k (numF tx (stepF tx N) lo hi).1 (numF tx (stepF tx N) lo hi).2 else k (-1) (failF N 1)
def rLaw4 {α : Type} (Z : ZT) (ld : Int32) (ac : Bool) (kd o si : Int32) (u : Int32 × NT) (k : Bool → ZT → α) : α :=
  if u.1 = -1 then k false (zN Z u.2) else k true (zL Z u.2 (lawAdd Z.2.2.2.1 ld kd o ac si u.1 u.2.2.2.2.1))
def rLaw3 {α : Type} (tx : Nat → Int32) (Z : ZT) (ld : Int32) (ac : Bool) (kd o si : Int32) (N : NT) (k : Bool → ZT → α) : α :=
  if si = -1 then k false (zN Z N) else if seeB tx N (kb 8) = true then rLaw4 Z ld ac kd o si (numF tx (stepF tx N) si 999) k else rLaw4 Z ld ac kd o si (999, N) k
def rLaw2 {α : Type} (tx : Nat → Int32) (Z : ZT) (ld : Int32) (ac : Bool) (v : Int32 × NT) (k : Bool → ZT → α) : α :=
  kwUseK tx Z.2.1 12 2 v (fun o N => kwNumK tx 13 0 999 o N (fun si N' => rLaw3 tx Z ld ac v.1 o si N' k))
def rLaw1 {α : Type} (tx : Nat → Int32) (Z : ZT) (u : Int32 × NT) (k : Bool → ZT → α) : α :=
  if u.1 = -1 then k false (zN Z u.2) else if seeB tx u.2 (kb 10) = true then rLaw2 tx Z u.1 true (useF tx Z.2.1 (stepF tx u.2) 3) k
  else if seeB tx u.2 (kb 11) = true then rLaw2 tx Z u.1 false (useF tx Z.2.1 (stepF tx u.2) 3) k else k false (zN Z (failF u.2 1))
def rLawK {α : Type} (tx : Nat → Int32) (Z : ZT) (k : Bool → ZT → α) : α :=
  if L_n Z.2.2.2.1 < 24 then rLaw1 tx Z (useF tx Z.2.1 (stepF tx Z.1) 1) k else k false (zN Z (failF Z.1 5))

def tX7_readLaw : List q_I := [(0, .aload_n 0, 1, 0, 0), (1, .getfield 43, 3, 0, 0), (4, .getfield 168, 3, 0, 0), (7, .invokevirtual 172, 3, 0, 0), (10, .ifCond .ne 9, 3, 0, 19), (13, .aload_n 0, 1, 0, 0), (14, .iconst 5, 1, 5, 0), (15, .invokevirtual 83, 3, 0, 0), (18, .ireturn, 1, 0, 0), (19, .aload_n 0, 1, 0, 0), (20, .invokevirtual 73, 3, 0, 0), (23, .aload_n 0, 1, 0, 0), (24, .iconst 1, 1, 1, 0), (25, .invokevirtual 131, 3, 0, 0), (28, .istore_n 1, 1, 0, 0), (29, .iload_n 1, 1, 0, 0), (30, .iconst (-1), 1, (-1), 0), (31, .if_icmp .ne 5, 3, 0, 36), (34, .iconst 0, 1, 0, 0), (35, .ireturn, 1, 0, 0), (36, .aload_n 0, 1, 0, 0), (37, .ldc 175, 2, 0, 0), (39, .invokevirtual 87, 3, 0, 0), (42, .istore_n 2, 1, 0, 0), (43, .iload_n 2, 1, 0, 0), (44, .ifCond .ne 18, 3, 0, 62), (47, .aload_n 0, 1, 0, 0), (48, .ldc 177, 2, 0, 0), (50, .invokevirtual 87, 3, 0, 0), (53, .ifCond .ne 9, 3, 0, 62), (56, .aload_n 0, 1, 0, 0), (57, .iconst 1, 1, 1, 0), (58, .invokevirtual 83, 3, 0, 0), (61, .ireturn, 1, 0, 0), (62, .aload_n 0, 1, 0, 0), (63, .invokevirtual 73, 3, 0, 0), (66, .aload_n 0, 1, 0, 0), (67, .iconst 3, 1, 3, 0), (68, .invokevirtual 131, 3, 0, 0), (71, .istore_n 3, 1, 0, 0), (72, .iload_n 3, 1, 0, 0), (73, .iconst (-1), 1, (-1), 0), (74, .if_icmp .eq 20, 3, 0, 94), (77, .aload_n 0, 1, 0, 0), (78, .ldc 179, 2, 0, 0), (80, .invokevirtual 144, 3, 0, 0), (83, .ifCond .eq 11, 3, 0, 94), (86, .aload_n 0, 1, 0, 0), (87, .iconst 2, 1, 2, 0), (88, .invokevirtual 131, 3, 0, 0), (91, .goto 4, 3, 0, 95), (94, .iconst (-1), 1, (-1), 0), (95, .istore 4, 2, 0, 0), (97, .iload 4, 2, 0, 0), (99, .iconst (-1), 1, (-1), 0), (100, .if_icmp .eq 23, 3, 0, 123), (103, .aload_n 0, 1, 0, 0), (104, .ldc 181, 2, 0, 0), (106, .invokevirtual 144, 3, 0, 0), (109, .ifCond .eq 14, 3, 0, 123), (112, .aload_n 0, 1, 0, 0), (113, .iconst 0, 1, 0, 0), (114, .sipush 999, 3, 999, 0), (117, .invokevirtual 147, 3, 0, 0), (120, .goto 4, 3, 0, 124), (123, .iconst (-1), 1, (-1), 0), (124, .istore 5, 2, 0, 0), (126, .iload 5, 2, 0, 0), (128, .iconst (-1), 1, (-1), 0), (129, .if_icmp .ne 5, 3, 0, 134), (132, .iconst 0, 1, 0, 0), (133, .ireturn, 1, 0, 0), (134, .sipush 999, 3, 999, 0), (137, .istore 6, 2, 0, 0), (139, .aload_n 0, 1, 0, 0), (140, .ldc 31, 2, 0, 0), (142, .invokevirtual 87, 3, 0, 0), (145, .ifCond .eq 18, 3, 0, 163), (148, .aload_n 0, 1, 0, 0), (149, .invokevirtual 73, 3, 0, 0), (152, .aload_n 0, 1, 0, 0), (153, .iload 5, 2, 0, 0), (155, .sipush 999, 3, 999, 0), (158, .invokevirtual 147, 3, 0, 0), (161, .istore 6, 2, 0, 0), (163, .iload 6, 2, 0, 0), (165, .iconst (-1), 1, (-1), 0), (166, .if_icmp .ne 5, 3, 0, 171), (169, .iconst 0, 1, 0, 0), (170, .ireturn, 1, 0, 0), (171, .aload_n 0, 1, 0, 0), (172, .getfield 43, 3, 0, 0), (175, .getfield 168, 3, 0, 0), (178, .iload_n 1, 1, 0, 0), (179, .iload_n 3, 1, 0, 0), (180, .iload 4, 2, 0, 0), (182, .iload_n 2, 1, 0, 0), (183, .iload 5, 2, 0, 0), (185, .iload 6, 2, 0, 0), (187, .aload_n 0, 1, 0, 0), (188, .getfield 61, 3, 0, 0), (191, .invokevirtual 183, 3, 0, 0), (194, .iconst 1, 1, 1, 0), (195, .ireturn, 1, 0, 0)]
theorem tX7_readLaw_ok : (tX7_readLaw.all (q_okI cX7_readLaw)) = true := by decide +kernel

abbrev fdX7_readLaw : List (Nat ⊕ (Nat × Nat)) := [.inl 0, .inr (0, 2), .inr (0, 3), .inr (0, 5), .inr (3, 0), .inr (3, 1), .inr (3, 2), .inr (3, 3), .inr (3, 5), .inr (8, 0), .inr (8, 1), .inr (8, 2), .inr (8, 3), .inr (8, 4), .inr (8, 5), .inr (8, 6), .inr (3, 6), .inr (16, 0), .inr (16, 1), .inr (16, 2), .inr (16, 3), .inr (16, 4), .inr (16, 5), .inr (16, 6), .inr (3, 7), .inr (24, 0), .inr (24, 1), .inr (24, 2), .inr (24, 3), .inr (24, 4), .inr (24, 5), .inr (24, 6), .inr (24, 7)]
def spX7_readLaw : q_P := fun a w K => ∃ (tx : Nat → Int32) (Z : ZT), w = zW tx Z ∧ a = [.ref 0] ∧ zOk Z ∧ rLawK tx Z (fun b Z' => K (.inl (some (.int (bI b)))) (zW tx Z'))
abbrev csX7_readLaw : q_S := (1, 7, 6, 7, 0, 0, fdX7_readLaw, spX7_readLaw)
theorem coX7_172 (l : Launch) : q_CO l RX7 172 csX3_hasRoom := ⟨yX3_hasRoom, cX3_hasRoom, (some .boolean), 0, ⟨by decide +kernel, by decide +kernel, by decide +kernel⟩, q_G_i 4 (by decide +kernel) rfl, Or.inl ⟨by decide, rfl, rfl, q_G_i 596 (by decide +kernel) rfl, q_G_i 597 (by decide +kernel) rfl, q_G_i 598 (by decide +kernel) rfl, Or.inl ⟨q_G_i 599 (by decide +kernel) rfl, ctX3_hasRoom l⟩⟩⟩
theorem coX7_147 (l : Launch) : q_CO l RX7 147 csX7_number := ⟨yX7_number, cX7_number, (some .int), 2, ⟨by decide +kernel, by decide +kernel, by decide +kernel⟩, q_G_i 6 (by decide +kernel) rfl, Or.inl ⟨by decide, rfl, rfl, q_G_i 628 (by decide +kernel) rfl, q_G_i 630 (by decide +kernel) rfl, q_G_s (n := 13) 13 (by decide +kernel), Or.inl ⟨q_G_i 631 (by decide +kernel) rfl, ctX7_number l⟩⟩⟩
theorem coX7_183 (l : Launch) : q_CO l RX7 183 csX3_add := ⟨yX3_add, cX3_add, none, 7, ⟨by decide +kernel, by decide +kernel, by decide +kernel⟩, q_G_i 4 (by decide +kernel) rfl, Or.inl ⟨by decide, rfl, rfl, q_G_i 632 (by decide +kernel) rfl, q_G_i 633 (by decide +kernel) rfl, q_G_i 634 (by decide +kernel) rfl, Or.inl ⟨q_G_i 635 (by decide +kernel) rfl, ctX3_add l⟩⟩⟩
def EX7_readLaw : q_E := (tX7_readLaw, [(62, [0, 1, 2]), (97, [0, 1, 2, 3, 4]), (126, [0, 1, 2, 3, 4, 5]), (163, [0, 1, 2, 3, 4, 5, 6])], 7, flX7, [(172, csX3_hasRoom), (83, csX7_fail), (73, csX7_step), (131, csX7_use), (87, csX7_sees), (144, csX7_goBy), (147, csX7_number), (183, csX3_add)], [], [], [(31, 8), (175, 10), (177, 11), (179, 12), (181, 13)], [], [], 6, 0, 0, (some .boolean), [], [], 0, 0)
theorem okX7_readLaw (l : Launch) : q_Eok l RX7 cX7_readLaw EX7_readLaw := ⟨tX7_readLaw_ok, flX7_ok, List.forall_mem_cons.mpr ⟨(coX7_172 l), List.forall_mem_cons.mpr ⟨(coX7_83 l), List.forall_mem_cons.mpr ⟨(coX7_73 l), List.forall_mem_cons.mpr ⟨(coX7_131 l), List.forall_mem_cons.mpr ⟨(coX7_87 l), List.forall_mem_cons.mpr ⟨(coX7_144 l), List.forall_mem_cons.mpr ⟨(coX7_147 l), List.forall_mem_cons.mpr ⟨(coX7_183 l), q_nil⟩⟩⟩⟩⟩⟩⟩⟩, q_nil, q_nil, List.forall_mem_cons.mpr ⟨⟨_, rfl, rfl, rfl⟩, List.forall_mem_cons.mpr ⟨⟨_, rfl, rfl, rfl⟩, List.forall_mem_cons.mpr ⟨⟨_, rfl, rfl, rfl⟩, List.forall_mem_cons.mpr ⟨⟨_, rfl, rfl, rfl⟩, List.forall_mem_cons.mpr ⟨⟨_, rfl, rfl, rfl⟩, q_nil⟩⟩⟩⟩⟩, q_nil, q_nil, (fun h => absurd h (by decide))⟩
set_option maxRecDepth 100000 in
set_option maxHeartbeats 4000000 in
theorem ctX7_readLaw (l : Launch) : q_CT l yX7_readLaw (.code yX7_readLaw cX7_readLaw 7 (some .boolean)) 6 0 0 spX7_readLaw := by
  refine q_ct_of EX7_readLaw (by decide +kernel) (okX7_readLaw l) rfl rfl rfl rfl rfl q_nil (fun ci h => by cases h) rfl ?_
  intro a w K h
  obtain ⟨tx, Z, rfl, rfl, ⟨hN, hB, hR, hL, hG⟩, hK⟩ := h
  refine ⟨Nat.le_of_ble_eq_true rfl, fun C hC => hC _ _ _ _ _ _ ?_⟩
  have hN1 := (stepF_ok (tx := tx) hN).1
  refine ⟨Z.2.2.2.1, rfl, rfl, hL, And.intro (fun c => ?_) (fun c => ?_)⟩
  · have cL := of_decide_eq_true (bI_n0.mp c)
    rw [rLawK, if_pos cL] at hK
    have at163 : ∀ (ld : Int32) (ac : Bool) (kd o si : Int32) (u : Int32 × NT), rLaw4 Z ld ac kd o si u (fun b Z' => K (.inl (some (.int (bI b)))) (zW tx Z')) → C 163 [(0, .ref 0), (1, .int ld), (2, .int (bI ac)), (3, .int kd), (4, .int o), (5, .int si), (6, .int u.1)] [] (zW tx (zN Z u.2)) 0 0 := by
      intro ld ac kd o si u hK
      refine hC _ _ _ _ _ _ (And.intro (fun c2 => ?_) (fun c2 => ?_))
      · rw [rLaw4, if_neg c2] at hK
        exact ⟨Z.2.2.2.1, _, _, _, _, _, _, _, rfl, rfl, cL, rfl, hK⟩
      · have c2 : u.1 = -1 := c2
        rw [rLaw4, if_pos c2] at hK
        exact ⟨rfl, hK⟩
    have at126 : ∀ (ld : Int32) (ac : Bool) (kd o si : Int32) (N : NT), nOk N → rLaw3 tx Z ld ac kd o si N (fun b Z' => K (.inl (some (.int (bI b)))) (zW tx Z')) → C 126 [(0, .ref 0), (1, .int ld), (2, .int (bI ac)), (3, .int kd), (4, .int o), (5, .int si)] [] (zW tx (zN Z N)) 0 0 := by
      intro ld ac kd o si N hN hK
      refine hC _ _ _ _ _ _ (And.intro (fun c2 => ?_) (fun c2 => ?_))
      · rw [rLaw3, if_neg c2] at hK
        refine ⟨by decide, tx, N, 8, _, rfl, rfl, rfl, hN, And.intro (fun c3 => ?_) (fun c3 => ?_)⟩
        · have c3 : seeB tx N (kb 8) = false := bI_0.mp c3
          rw [if_neg (by rw [c3]; decide)] at hK
          exact at163 ld ac kd o si (999, N) hK
        · have c3 : seeB tx N (kb 8) = true := bI_n0.mp c3
          rw [if_pos c3] at hK
          exact ⟨tx, N, rfl, rfl, hN.s, tx, stepF tx N, _, _, rfl, rfl, (stepF_ok hN).1, at163 ld ac kd o si _ hK⟩
      · have c2 : si = -1 := c2
        rw [rLaw3, if_pos c2] at hK
        exact ⟨rfl, hK⟩
    have at97 : ∀ (ld : Int32) (ac : Bool) (kd o : Int32) (N : NT), nOk N → kwNumK tx 13 0 999 o N (fun si N' => rLaw3 tx Z ld ac kd o si N' (fun b Z' => K (.inl (some (.int (bI b)))) (zW tx Z'))) → C 97 [(0, .ref 0), (1, .int ld), (2, .int (bI ac)), (3, .int kd), (4, .int o)] [] (zW tx (zN Z N)) 0 0 := by
      intro ld ac kd o N hN hK
      rw [kwNumK] at hK
      refine hC _ _ _ _ _ _ (And.intro (fun c2 => ?_) (fun c2 => ?_))
      · have c2 : o = -1 := c2
        rw [if_pos c2] at hK
        exact at126 ld ac kd o (-1) N hN hK
      · rw [if_neg c2] at hK
        refine ⟨by decide, tx, N, 13, _, rfl, rfl, rfl, hN, fun c3 => ?_, fun c3 => ?_⟩
        · have c3 : seeB tx N (kb 13) = true := c3
          rw [if_pos c3] at hK
          refine And.intro (fun z => absurd z (by decide)) (fun _ => ?_)
          exact ⟨tx, stepF tx N, _, _, rfl, rfl, (stepF_ok hN).1, at126 ld ac kd o _ _ (nOk_num (stepF_ok hN).1) hK⟩
        · have c3 : seeB tx N (kb 13) = false := c3
          rw [if_neg (by rw [c3]; decide)] at hK
          exact And.intro (fun _ => at126 ld ac kd o (-1) (failF N 1) hN hK) (fun z => absurd rfl z)
    have at62 : ∀ (ld : Int32) (ac : Bool) (N : NT), nOk N → rLaw2 tx Z ld ac (useF tx Z.2.1 (stepF tx N) 3) (fun b Z' => K (.inl (some (.int (bI b)))) (zW tx Z')) → C 62 [(0, .ref 0), (1, .int ld), (2, .int (bI ac))] [] (zW tx (zN Z N)) 0 0 := by
      intro ld ac N hN hK
      have hN1 := (stepF_ok (tx := tx) hN).1
      have hN2 := nOk_use (tx := tx) (B := Z.2.1) (s := 3) hN1
      refine hC _ _ _ _ _ _ ⟨tx, N, rfl, rfl, hN.s, tx, stepF tx N, Z.2.1, _, rfl, rfl, hN1, hB, ?_⟩
      generalize useF tx Z.2.1 (stepF tx N) 3 = v at hK hN2 ⊢
      rw [rLaw2, kwUseK] at hK
      refine And.intro (fun c2 => ?_) (fun c2 => ?_)
      · rw [if_pos c2] at hK
        exact at97 ld ac v.1 (-1) v.2 hN2 hK
      · rw [if_neg c2] at hK
        refine ⟨by decide, tx, v.2, 12, _, rfl, rfl, rfl, hN2, fun c3 => ?_, fun c3 => ?_⟩
        · have c3 : seeB tx v.2 (kb 12) = true := c3
          rw [if_pos c3] at hK
          refine And.intro (fun z => absurd z (by decide)) (fun _ => ?_)
          exact ⟨tx, stepF tx v.2, Z.2.1, _, rfl, rfl, (stepF_ok hN2).1, hB, at97 ld ac v.1 _ _ (nOk_use (stepF_ok hN2).1) hK⟩
        · have c3 : seeB tx v.2 (kb 12) = false := c3
          rw [if_neg (by rw [c3]; decide)] at hK
          exact And.intro (fun _ => at97 ld ac v.1 (-1) (failF v.2 1) hN2 hK) (fun z => absurd rfl z)
    refine ⟨tx, Z.1, rfl, rfl, hN.s, tx, stepF tx Z.1, Z.2.1, _, rfl, rfl, hN1, hB, ?_⟩
    have hN2 := nOk_use (tx := tx) (B := Z.2.1) (s := 1) hN1
    generalize useF tx Z.2.1 (stepF tx Z.1) 1 = u at hK hN2 ⊢
    rw [rLaw1] at hK
    refine And.intro (fun c2 => ?_) (fun c2 => ?_)
    · rw [if_neg c2] at hK
      refine ⟨by decide, tx, u.2, 10, _, rfl, rfl, rfl, hN2, And.intro (fun c3 => ?_) (fun c3 => ?_)⟩
      · have c3 : seeB tx u.2 (kb 10) = true := bI_n0.mp c3
        rw [if_pos c3] at hK
        have h9 := at62 u.1 true u.2 hN2 hK
        rw [← c3] at h9
        exact h9
      · have c3 : seeB tx u.2 (kb 10) = false := bI_0.mp c3
        rw [if_neg (by rw [c3]; decide)] at hK
        refine ⟨by decide, tx, u.2, 11, _, rfl, rfl, rfl, hN2, And.intro (fun c4 => ?_) (fun c4 => ?_)⟩
        · have c4 : seeB tx u.2 (kb 11) = true := bI_n0.mp c4
          rw [if_pos c4] at hK
          have h9 := at62 u.1 false u.2 hN2 hK
          rw [← c3] at h9
          exact h9
        · have c4 : seeB tx u.2 (kb 11) = false := bI_0.mp c4
          rw [if_neg (by rw [c4]; decide)] at hK
          exact ⟨tx, u.2, _, rfl, rfl, rfl, hK⟩
    · have c2 : u.1 = -1 := c2
      rw [if_pos c2] at hK
      exact ⟨rfl, hK⟩
  · rw [rLawK, if_neg (of_decide_eq_false (bI_0.mp c))] at hK
    exact ⟨tx, Z.1, _, rfl, rfl, rfl, hK⟩
def rCase2 {α : Type} (tx : Nat → Int32) (Z : ZT) (g : Nat) (pr : Bool) (v : Int32 × NT) (k : Bool → ZT → α) : α :=
  kwUseK tx Z.2.1 12 2 v (fun o N => if o = -1 then k false (zN Z N) else k true (zG Z N (giftCase Z.2.2.2.2 g (if pr = true then 1 else 2) v.1 o)))
def rCaseB {α : Type} (Z : ZT) (g : Nat) (u : Int32 × NT) (k : Bool → ZT → α) : α :=
  if u.1 = -1 then k false (zN Z u.2) else k true (zG Z u.2 (giftCase Z.2.2.2.2 g 0 u.1 (-1)))
def rCase1 {α : Type} (tx : Nat → Int32) (Z : ZT) (g : Nat) (N : NT) (k : Bool → ZT → α) : α :=
  if seeB tx N (kb 18) = true then rCaseB Z g (useF tx Z.2.1 (stepF tx N) 0) k
  else if seeB tx N (kb 19) = true then rCase2 tx Z g true (useF tx Z.2.1 (stepF tx N) 3) k
  else if seeB tx N (kb 20) = true then rCase2 tx Z g false (useF tx Z.2.1 (stepF tx N) 3) k else k false (zN Z (failF N 1))
def rCaseK {α : Type} (tx : Nat → Int32) (Z : ZT) (g : Nat) (k : Bool → ZT → α) : α :=
  if gcN Z.2.2.2.2 g < 3 then rCase1 tx Z g (stepF tx Z.1) k else k false (zN Z (failF Z.1 5))
def tX7_readCase : List q_I := [(0, .aload_n 0, 1, 0, 0), (1, .getfield 43, 3, 0, 0), (4, .getfield 186, 3, 0, 0), (7, .invokevirtual 201, 3, 0, 0), (10, .ifCond .ne 9, 3, 0, 19), (13, .aload_n 0, 1, 0, 0), (14, .iconst 5, 1, 5, 0), (15, .invokevirtual 83, 3, 0, 0), (18, .ireturn, 1, 0, 0), (19, .aload_n 0, 1, 0, 0), (20, .invokevirtual 73, 3, 0, 0), (23, .aload_n 0, 1, 0, 0), (24, .ldc 204, 2, 0, 0), (26, .invokevirtual 87, 3, 0, 0), (29, .ifCond .eq 35, 3, 0, 64), (32, .aload_n 0, 1, 0, 0), (33, .invokevirtual 73, 3, 0, 0), (36, .aload_n 0, 1, 0, 0), (37, .iconst 0, 1, 0, 0), (38, .invokevirtual 131, 3, 0, 0), (41, .istore_n 1, 1, 0, 0), (42, .iload_n 1, 1, 0, 0), (43, .iconst (-1), 1, (-1), 0), (44, .if_icmp .ne 5, 3, 0, 49), (47, .iconst 0, 1, 0, 0), (48, .ireturn, 1, 0, 0), (49, .aload_n 0, 1, 0, 0), (50, .getfield 43, 3, 0, 0), (53, .getfield 186, 3, 0, 0), (56, .iconst 0, 1, 0, 0), (57, .iload_n 1, 1, 0, 0), (58, .iconst (-1), 1, (-1), 0), (59, .invokevirtual 206, 3, 0, 0), (62, .iconst 1, 1, 1, 0), (63, .ireturn, 1, 0, 0), (64, .aload_n 0, 1, 0, 0), (65, .ldc 209, 2, 0, 0), (67, .invokevirtual 87, 3, 0, 0), (70, .istore_n 1, 1, 0, 0), (71, .iload_n 1, 1, 0, 0), (72, .ifCond .ne 18, 3, 0, 90), (75, .aload_n 0, 1, 0, 0), (76, .ldc 211, 2, 0, 0), (78, .invokevirtual 87, 3, 0, 0), (81, .ifCond .ne 9, 3, 0, 90), (84, .aload_n 0, 1, 0, 0), (85, .iconst 1, 1, 1, 0), (86, .invokevirtual 83, 3, 0, 0), (89, .ireturn, 1, 0, 0), (90, .aload_n 0, 1, 0, 0), (91, .invokevirtual 73, 3, 0, 0), (94, .aload_n 0, 1, 0, 0), (95, .iconst 3, 1, 3, 0), (96, .invokevirtual 131, 3, 0, 0), (99, .istore_n 2, 1, 0, 0), (100, .iload_n 2, 1, 0, 0), (101, .iconst (-1), 1, (-1), 0), (102, .if_icmp .eq 20, 3, 0, 122), (105, .aload_n 0, 1, 0, 0), (106, .ldc 179, 2, 0, 0), (108, .invokevirtual 144, 3, 0, 0), (111, .ifCond .eq 11, 3, 0, 122), (114, .aload_n 0, 1, 0, 0), (115, .iconst 2, 1, 2, 0), (116, .invokevirtual 131, 3, 0, 0), (119, .goto 4, 3, 0, 123), (122, .iconst (-1), 1, (-1), 0), (123, .istore_n 3, 1, 0, 0), (124, .iload_n 3, 1, 0, 0), (125, .iconst (-1), 1, (-1), 0), (126, .if_icmp .ne 5, 3, 0, 131), (129, .iconst 0, 1, 0, 0), (130, .ireturn, 1, 0, 0), (131, .aload_n 0, 1, 0, 0), (132, .getfield 43, 3, 0, 0), (135, .getfield 186, 3, 0, 0), (138, .iload_n 1, 1, 0, 0), (139, .ifCond .eq 7, 3, 0, 146), (142, .iconst 1, 1, 1, 0), (143, .goto 4, 3, 0, 147), (146, .iconst 2, 1, 2, 0), (147, .iload_n 2, 1, 0, 0), (148, .iload_n 3, 1, 0, 0), (149, .invokevirtual 206, 3, 0, 0), (152, .iconst 1, 1, 1, 0), (153, .ireturn, 1, 0, 0)]
theorem tX7_readCase_ok : (tX7_readCase.all (q_okI cX7_readCase)) = true := by decide +kernel

abbrev fdX7_readCase : List (Nat ⊕ (Nat × Nat)) := [.inl 0, .inr (0, 2), .inr (0, 3), .inr (0, 5), .inr (3, 0), .inr (3, 1), .inr (3, 2), .inr (3, 3), .inr (3, 5), .inr (8, 0), .inr (8, 1), .inr (8, 2), .inr (8, 3), .inr (8, 4), .inr (8, 5), .inr (8, 6), .inr (3, 6), .inr (16, 0), .inr (16, 1), .inr (16, 2), .inr (16, 3), .inr (16, 4), .inr (16, 5), .inr (16, 6), .inr (3, 7), .inr (24, 0), .inr (24, 1), .inr (24, 2), .inr (24, 3), .inr (24, 4), .inr (24, 5), .inr (24, 6), .inr (24, 7)]
def spX7_readCase : q_P := fun a w K => ∃ (tx : Nat → Int32) (Z : ZT) (g : Nat), w = zW tx Z ∧ a = [.ref 0] ∧ zOk Z ∧ Z.2.2.2.2.2.2.2.2.2.2.2.2 = g + 1 ∧ rCaseK tx Z g (fun b Z' => K (.inl (some (.int (bI b)))) (zW tx Z'))
abbrev csX7_readCase : q_S := (1, 7, 6, 4, 0, 0, fdX7_readCase, spX7_readCase)
theorem coX7_201 (l : Launch) : q_CO l RX7 201 csX2_lastHasCaseRoom := ⟨yX2_lastHasCaseRoom, cX2_lastHasCaseRoom, (some .boolean), 0, ⟨by decide +kernel, by decide +kernel, by decide +kernel⟩, q_G_i 5 (by decide +kernel) rfl, Or.inl ⟨by decide, rfl, rfl, q_G_i 694 (by decide +kernel) rfl, q_G_i 695 (by decide +kernel) rfl, q_G_i 696 (by decide +kernel) rfl, Or.inl ⟨q_G_i 697 (by decide +kernel) rfl, ctX2_lastHasCaseRoom l⟩⟩⟩
theorem coX7_206 (l : Launch) : q_CO l RX7 206 csX2_addCaseToLast := ⟨yX2_addCaseToLast, cX2_addCaseToLast, none, 3, ⟨by decide +kernel, by decide +kernel, by decide +kernel⟩, q_G_i 5 (by decide +kernel) rfl, Or.inl ⟨by decide, rfl, rfl, q_G_i 699 (by decide +kernel) rfl, q_G_i 700 (by decide +kernel) rfl, q_G_i 701 (by decide +kernel) rfl, Or.inl ⟨q_G_i 702 (by decide +kernel) rfl, ctX2_addCaseToLast l⟩⟩⟩
def EX7_readCase : q_E := (tX7_readCase, [(90, [0, 1]), (124, [0, 1, 2, 3])], 4, flX7, [(201, csX2_lastHasCaseRoom), (83, csX7_fail), (73, csX7_step), (87, csX7_sees), (131, csX7_use), (206, csX2_addCaseToLast), (144, csX7_goBy)], [], [], [(179, 12), (204, 18), (209, 19), (211, 20)], [], [], 6, 0, 0, (some .boolean), [], [], 0, 0)
theorem okX7_readCase (l : Launch) : q_Eok l RX7 cX7_readCase EX7_readCase := ⟨tX7_readCase_ok, flX7_ok, List.forall_mem_cons.mpr ⟨(coX7_201 l), List.forall_mem_cons.mpr ⟨(coX7_83 l), List.forall_mem_cons.mpr ⟨(coX7_73 l), List.forall_mem_cons.mpr ⟨(coX7_87 l), List.forall_mem_cons.mpr ⟨(coX7_131 l), List.forall_mem_cons.mpr ⟨(coX7_206 l), List.forall_mem_cons.mpr ⟨(coX7_144 l), q_nil⟩⟩⟩⟩⟩⟩⟩, q_nil, q_nil, List.forall_mem_cons.mpr ⟨⟨_, rfl, rfl, rfl⟩, List.forall_mem_cons.mpr ⟨⟨_, rfl, rfl, rfl⟩, List.forall_mem_cons.mpr ⟨⟨_, rfl, rfl, rfl⟩, List.forall_mem_cons.mpr ⟨⟨_, rfl, rfl, rfl⟩, q_nil⟩⟩⟩⟩, q_nil, q_nil, (fun h => absurd h (by decide))⟩
set_option maxRecDepth 100000 in
set_option maxHeartbeats 4000000 in
theorem ctX7_readCase (l : Launch) : q_CT l yX7_readCase (.code yX7_readCase cX7_readCase 4 (some .boolean)) 6 0 0 spX7_readCase := by
  refine q_ct_of EX7_readCase (by decide +kernel) (okX7_readCase l) rfl rfl rfl rfl rfl q_nil (fun ci h => by cases h) rfl ?_
  intro a w K h
  obtain ⟨tx, Z, g, rfl, rfl, ⟨hN, hB, hR, hL, hG⟩, hg, hK⟩ := h
  refine ⟨Nat.le_of_ble_eq_true rfl, fun C hC => hC _ _ _ _ _ _ ?_⟩
  have hN1 := (stepF_ok (tx := tx) hN).1
  refine ⟨Z.2.2.2.2, g, rfl, rfl, hG, hg, And.intro (fun c => ?_) (fun c => ?_)⟩
  · have cG := of_decide_eq_true (bI_n0.mp c)
    rw [rCaseK, if_pos cG] at hK
    refine ⟨tx, Z.1, rfl, rfl, hN.s, ?_⟩
    generalize stepF tx Z.1 = N at hK hN1 ⊢
    rw [rCase1] at hK
    have hN3 := (stepF_ok (tx := tx) hN1).1
    have at124 : ∀ (pr : Bool) (kd o : Int32) (N : NT), (if o = -1 then K (.inl (some (.int (bI false)))) (zW tx (zN Z N)) else K (.inl (some (.int (bI true)))) (zW tx (zG Z N (giftCase Z.2.2.2.2 g (if pr = true then 1 else 2) kd o)))) → C 124 [(0, .ref 0), (1, .int (bI pr)), (2, .int kd), (3, .int o)] [] (zW tx (zN Z N)) 0 0 := by
      intro pr kd o N hK
      refine hC _ _ _ _ _ _ (And.intro (fun c2 => ?_) (fun c2 => ?_))
      · rw [if_neg c2] at hK
        cases pr with
        | true => exact And.intro (fun z => absurd z (by decide)) (fun _ => ⟨Z.2.2.2.2, g, _, _, _, rfl, rfl, hG, hg, cG, rfl, hK⟩)
        | false => exact And.intro (fun _ => ⟨Z.2.2.2.2, g, _, _, _, rfl, rfl, hG, hg, cG, rfl, hK⟩) (fun z => absurd rfl z)
      · have c2 : o = -1 := c2
        rw [if_pos c2] at hK
        exact ⟨rfl, hK⟩
    have at90 : ∀ (pr : Bool) (N : NT), nOk N → rCase2 tx Z g pr (useF tx Z.2.1 (stepF tx N) 3) (fun b Z' => K (.inl (some (.int (bI b)))) (zW tx Z')) → C 90 [(0, .ref 0), (1, .int (bI pr))] [] (zW tx (zN Z N)) 0 0 := by
      intro pr N hN hK
      have hN1 := (stepF_ok (tx := tx) hN).1
      have hN2 := nOk_use (tx := tx) (B := Z.2.1) (s := 3) hN1
      refine hC _ _ _ _ _ _ ⟨tx, N, rfl, rfl, hN.s, tx, stepF tx N, Z.2.1, _, rfl, rfl, hN1, hB, ?_⟩
      generalize useF tx Z.2.1 (stepF tx N) 3 = v at hK hN2 ⊢
      rw [rCase2, kwUseK] at hK
      refine And.intro (fun c2 => ?_) (fun c2 => ?_)
      · rw [if_pos c2] at hK
        exact at124 pr v.1 (-1) v.2 hK
      · rw [if_neg c2] at hK
        refine ⟨by decide, tx, v.2, 12, _, rfl, rfl, rfl, hN2, fun c3 => ?_, fun c3 => ?_⟩
        · have c3 : seeB tx v.2 (kb 12) = true := c3
          rw [if_pos c3] at hK
          refine And.intro (fun z => absurd z (by decide)) (fun _ => ?_)
          exact ⟨tx, stepF tx v.2, Z.2.1, _, rfl, rfl, (stepF_ok hN2).1, hB, at124 pr v.1 _ _ hK⟩
        · have c3 : seeB tx v.2 (kb 12) = false := c3
          rw [if_neg (by rw [c3]; decide)] at hK
          exact And.intro (fun _ => at124 pr v.1 (-1) (failF v.2 1) hK) (fun z => absurd rfl z)
    refine ⟨by decide, tx, N, 18, _, rfl, rfl, rfl, hN1, And.intro (fun c3 => ?_) (fun c3 => ?_)⟩
    · have c3 : seeB tx N (kb 18) = false := bI_0.mp c3
      rw [if_neg (by rw [c3]; decide)] at hK
      refine ⟨by decide, tx, N, 19, _, rfl, rfl, rfl, hN1, And.intro (fun c4 => ?_) (fun c4 => ?_)⟩
      · have c4 : seeB tx N (kb 19) = true := bI_n0.mp c4
        rw [if_pos c4] at hK
        have h9 := at90 true N hN1 hK
        rw [← c4] at h9
        exact h9
      · have c4 : seeB tx N (kb 19) = false := bI_0.mp c4
        rw [if_neg (by rw [c4]; decide)] at hK
        refine ⟨by decide, tx, N, 20, _, rfl, rfl, rfl, hN1, And.intro (fun c5 => ?_) (fun c5 => ?_)⟩
        · have c5 : seeB tx N (kb 20) = true := bI_n0.mp c5
          rw [if_pos c5] at hK
          have h9 := at90 false N hN1 hK
          rw [← c4] at h9
          exact h9
        · have c5 : seeB tx N (kb 20) = false := bI_0.mp c5
          rw [if_neg (by rw [c5]; decide)] at hK
          exact ⟨tx, N, _, rfl, rfl, rfl, hK⟩
    · have c3 : seeB tx N (kb 18) = true := bI_n0.mp c3
      rw [if_pos c3, rCaseB] at hK
      refine ⟨tx, N, rfl, rfl, hN1.s, tx, stepF tx N, Z.2.1, _, rfl, rfl, hN3, hB, ?_⟩
      generalize useF tx Z.2.1 (stepF tx N) 0 = u at hK ⊢
      refine And.intro (fun c4 => ?_) (fun c4 => ?_)
      · rw [if_neg c4] at hK
        exact ⟨Z.2.2.2.2, g, _, _, _, rfl, rfl, hG, hg, cG, rfl, hK⟩
      · have c4 : u.1 = -1 := c4
        rw [if_pos c4] at hK
        exact ⟨rfl, hK⟩
  · rw [rCaseK, if_neg (of_decide_eq_false (bI_0.mp c))] at hK
    exact ⟨tx, Z.1, _, rfl, rfl, rfl, hK⟩
