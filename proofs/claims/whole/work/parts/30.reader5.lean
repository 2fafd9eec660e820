def rRoad3 {α : Type} (tx : Nat → Int32) (Z : ZT) (a b d c : Int32) (N : NT) (k : Bool → ZT → α) : α :=
  if c = -1 then k false (zN Z N) else rPostsK tx Z.2.2.1.2.2.2.2.2.2.2 k 4 (zR Z N (roadAdd Z.2.2.1 a b d c))
def rRoad2 {α : Type} (tx : Nat → Int32) (Z : ZT) (a p : Int32) (v : Int32 × NT) (k : Bool → ZT → α) : α :=
  if v.1 = -1 then k false (zN Z v.2) else if v.1 = a then k false (zN Z (failAtF v.2 3 p))
  else kwNumK tx 14 1 60 0 v.2 (fun d N => kwNumK tx 15 0 999 d N (fun c N' => rRoad3 tx Z a v.1 d c N' k))
def rRoad1 {α : Type} (tx : Nat → Int32) (Z : ZT) (u : Int32 × NT) (k : Bool → ZT → α) : α :=
  if u.1 = -1 then rRoad2 tx Z u.1 (nI u.2.2.2.2.2.2.2.1) (-1, u.2) k else rRoad2 tx Z u.1 (nI u.2.2.2.2.2.2.2.1) (useF tx Z.2.1 u.2 0) k
def rRoadK {α : Type} (tx : Nat → Int32) (Z : ZT) (k : Bool → ZT → α) : α :=
  if Z.2.2.1.2.2.2.2.2.2.2 < 16 then rRoad1 tx Z (useF tx Z.2.1 (stepF tx Z.1) 0) k else k false (zN Z (failF Z.1 5))

def tX7_readRoad : List q_I := [(0, .aload_n 0, 1, 0, 0), (1, .getfield 43, 3, 0, 0), (4, .getfield 123, 3, 0, 0), (7, .invokevirtual 127, 3, 0, 0), (10, .ifCond .ne 9, 3, 0, 19), (13, .aload_n 0, 1, 0, 0), (14, .iconst 5, 1, 5, 0), (15, .invokevirtual 83, 3, 0, 0), (18, .ireturn, 1, 0, 0), (19, .aload_n 0, 1, 0, 0), (20, .invokevirtual 73, 3, 0, 0), (23, .aload_n 0, 1, 0, 0), (24, .iconst 0, 1, 0, 0), (25, .invokevirtual 131, 3, 0, 0), (28, .istore_n 1, 1, 0, 0), (29, .aload_n 0, 1, 0, 0), (30, .getfield 135, 3, 0, 0), (33, .istore_n 2, 1, 0, 0), (34, .iload_n 1, 1, 0, 0), (35, .iconst (-1), 1, (-1), 0), (36, .if_icmp .ne 7, 3, 0, 43), (39, .iconst (-1), 1, (-1), 0), (40, .goto 8, 3, 0, 48), (43, .aload_n 0, 1, 0, 0), (44, .iconst 0, 1, 0, 0), (45, .invokevirtual 131, 3, 0, 0), (48, .istore_n 3, 1, 0, 0), (49, .iload_n 3, 1, 0, 0), (50, .iconst (-1), 1, (-1), 0), (51, .if_icmp .ne 5, 3, 0, 56), (54, .iconst 0, 1, 0, 0), (55, .ireturn, 1, 0, 0), (56, .iload_n 3, 1, 0, 0), (57, .iload_n 1, 1, 0, 0), (58, .if_icmp .ne 10, 3, 0, 68), (61, .aload_n 0, 1, 0, 0), (62, .iconst 3, 1, 3, 0), (63, .iload_n 2, 1, 0, 0), (64, .invokevirtual 138, 3, 0, 0), (67, .ireturn, 1, 0, 0), (68, .aload_n 0, 1, 0, 0), (69, .ldc 142, 2, 0, 0), (71, .invokevirtual 144, 3, 0, 0), (74, .ifCond .eq 13, 3, 0, 87), (77, .aload_n 0, 1, 0, 0), (78, .iconst 1, 1, 1, 0), (79, .bipush 60, 2, 60, 0), (81, .invokevirtual 147, 3, 0, 0), (84, .goto 4, 3, 0, 88), (87, .iconst (-1), 1, (-1), 0), (88, .istore 4, 2, 0, 0), (90, .iload 4, 2, 0, 0), (92, .iconst (-1), 1, (-1), 0), (93, .if_icmp .eq 23, 3, 0, 116), (96, .aload_n 0, 1, 0, 0), (97, .ldc 150, 2, 0, 0), (99, .invokevirtual 144, 3, 0, 0), (102, .ifCond .eq 14, 3, 0, 116), (105, .aload_n 0, 1, 0, 0), (106, .iconst 0, 1, 0, 0), (107, .sipush 999, 3, 999, 0), (110, .invokevirtual 147, 3, 0, 0), (113, .goto 4, 3, 0, 117), (116, .iconst (-1), 1, (-1), 0), (117, .istore 5, 2, 0, 0), (119, .iload 5, 2, 0, 0), (121, .iconst (-1), 1, (-1), 0), (122, .if_icmp .ne 5, 3, 0, 127), (125, .iconst 0, 1, 0, 0), (126, .ireturn, 1, 0, 0), (127, .aload_n 0, 1, 0, 0), (128, .getfield 43, 3, 0, 0), (131, .getfield 123, 3, 0, 0), (134, .iload_n 1, 1, 0, 0), (135, .iload_n 3, 1, 0, 0), (136, .iload 4, 2, 0, 0), (138, .iload 5, 2, 0, 0), (140, .invokevirtual 152, 3, 0, 0), (143, .iconst 0, 1, 0, 0), (144, .istore 6, 2, 0, 0), (146, .iload 6, 2, 0, 0), (148, .iconst 3, 1, 3, 0), (149, .if_icmp .gt 27, 3, 0, 176), (152, .aload_n 0, 1, 0, 0), (153, .ldc 29, 2, 0, 0), (155, .invokevirtual 87, 3, 0, 0), (158, .ifCond .eq 18, 3, 0, 176), (161, .aload_n 0, 1, 0, 0), (162, .invokevirtual 156, 3, 0, 0), (165, .ifCond .ne 5, 3, 0, 170), (168, .iconst 0, 1, 0, 0), (169, .ireturn, 1, 0, 0), (170, .iinc 6 1, 3, 1, 0), (173, .goto (-27), 3, 0, 146), (176, .iconst 1, 1, 1, 0), (177, .ireturn, 1, 0, 0)]
theorem tX7_readRoad_ok : (tX7_readRoad.all (q_okI cX7_readRoad)) = true := by decide +kernel

abbrev fdX7_readRoad : List (Nat ⊕ (Nat × Nat)) := [.inl 0, .inr (0, 2), .inr (0, 3), .inr (0, 5), .inr (3, 0), .inr (3, 1), .inr (3, 2), .inr (3, 3), .inr (3, 5), .inr (8, 0), .inr (8, 1), .inr (8, 2), .inr (8, 3), .inr (8, 4), .inr (8, 5), .inr (8, 6), .inr (3, 6), .inr (16, 0), .inr (16, 1), .inr (16, 2), .inr (16, 3), .inr (16, 4), .inr (16, 5), .inr (16, 6), .inr (3, 7), .inr (24, 0), .inr (24, 1), .inr (24, 2), .inr (24, 3), .inr (24, 4), .inr (24, 5), .inr (24, 6), .inr (24, 7)]
def spX7_readRoad : q_P := fun a w K => ∃ (tx : Nat → Int32) (Z : ZT), w = zW tx Z ∧ a = [.ref 0] ∧ zOk Z ∧ rRoadK tx Z (fun b Z' => K (.inl (some (.int (bI b)))) (zW tx Z'))
abbrev csX7_readRoad : q_S := (1, 7, 7, 7, 0, 0, fdX7_readRoad, spX7_readRoad)
theorem coX7_127 (l : Launch) : q_CO l RX7 127 csX8_hasRoom := ⟨yX8_hasRoom, cX8_hasRoom, (some .boolean), 0, ⟨by decide +kernel, by decide +kernel, by decide +kernel⟩, q_G_i 3 (by decide +kernel) rfl, Or.inl ⟨by decide, rfl, rfl, q_G_i 654 (by decide +kernel) rfl, q_G_i 655 (by decide +kernel) rfl, q_G_i 656 (by decide +kernel) rfl, Or.inl ⟨q_G_i 657 (by decide +kernel) rfl, ctX8_hasRoom l⟩⟩⟩
theorem coX7_152 (l : Launch) : q_CO l RX7 152 csX8_add := ⟨yX8_add, cX8_add, none, 4, ⟨by decide +kernel, by decide +kernel, by decide +kernel⟩, q_G_i 3 (by decide +kernel) rfl, Or.inl ⟨by decide, rfl, rfl, q_G_i 660 (by decide +kernel) rfl, q_G_i 661 (by decide +kernel) rfl, q_G_i 662 (by decide +kernel) rfl, Or.inl ⟨q_G_i 663 (by decide +kernel) rfl, ctX8_add l⟩⟩⟩
theorem coX7_156 (l : Launch) : q_CO l RX7 156 csX7_readPost := ⟨yX7_readPost, cX7_readPost, (some .boolean), 0, ⟨by decide +kernel, by decide +kernel, by decide +kernel⟩, q_G_i 6 (by decide +kernel) rfl, Or.inl ⟨by decide, rfl, rfl, q_G_i 664 (by decide +kernel) rfl, q_G_i 666 (by decide +kernel) rfl, q_G_s (n := 13) 16 (by decide +kernel), Or.inl ⟨q_G_i 667 (by decide +kernel) rfl, ctX7_readPost l⟩⟩⟩
def EX7_readRoad : q_E := (tX7_readRoad, [(49, [0, 1, 2, 3]), (90, [0, 1, 3, 4]), (119, [0, 1, 3, 4, 5]), (146, [0, 6])], 7, flX7, [(127, csX8_hasRoom), (83, csX7_fail), (73, csX7_step), (131, csX7_use), (138, csX7_failAt), (144, csX7_goBy), (147, csX7_number), (152, csX8_add), (87, csX7_sees), (156, csX7_readPost)], [], [], [(29, 7), (142, 14), (150, 15)], [], [], 7, 0, 0, (some .boolean), [], [], 0, 0)
theorem okX7_readRoad (l : Launch) : q_Eok l RX7 cX7_readRoad EX7_readRoad := ⟨tX7_readRoad_ok, flX7_ok, List.forall_mem_cons.mpr ⟨(coX7_127 l), List.forall_mem_cons.mpr ⟨(coX7_83 l), List.forall_mem_cons.mpr ⟨(coX7_73 l), List.forall_mem_cons.mpr ⟨(coX7_131 l), List.forall_mem_cons.mpr ⟨(coX7_138 l), List.forall_mem_cons.mpr ⟨(coX7_144 l), List.forall_mem_cons.mpr ⟨(coX7_147 l), List.forall_mem_cons.mpr ⟨(coX7_152 l), List.forall_mem_cons.mpr ⟨(coX7_87 l), List.forall_mem_cons.mpr ⟨(coX7_156 l), q_nil⟩⟩⟩⟩⟩⟩⟩⟩⟩⟩, q_nil, q_nil, List.forall_mem_cons.mpr ⟨⟨_, rfl, rfl, rfl⟩, List.forall_mem_cons.mpr ⟨⟨_, rfl, rfl, rfl⟩, List.forall_mem_cons.mpr ⟨⟨_, rfl, rfl, rfl⟩, q_nil⟩⟩⟩, q_nil, q_nil, (fun h => absurd h (by decide))⟩
set_option maxRecDepth 100000 in
set_option maxHeartbeats 4000000 in
theorem ctX7_readRoad (l : Launch) : q_CT l yX7_readRoad (.code yX7_readRoad cX7_readRoad 7 (some .boolean)) 7 0 0 spX7_readRoad := by
  refine q_ct_of EX7_readRoad (by decide +kernel) (okX7_readRoad l) rfl rfl rfl rfl rfl q_nil (fun ci h => by cases h) rfl ?_
  intro a w K h
  obtain ⟨tx, Z, rfl, rfl, ⟨hN, hB, hR, hL, hG⟩, hK⟩ := h
  refine ⟨Nat.le_of_ble_eq_true rfl, fun C hC => hC _ _ _ _ _ _ ?_⟩
  have hN1 := (stepF_ok (tx := tx) hN).1
  refine ⟨Z.2.2.1, rfl, rfl, hR.1, And.intro (fun c => ?_) (fun c => ?_)⟩
  · have cR := of_decide_eq_true (bI_n0.mp c)
    rw [rRoadK, if_pos cR] at hK
    have loop : ∀ n i Z1, i + n = 4 → zOk Z1 → Z1.2.2.1.2.2.2.2.2.2.2 = Z.2.2.1.2.2.2.2.2.2.2 + 1 → rPostsK tx Z.2.2.1.2.2.2.2.2.2.2 (fun b Z' => K (.inl (some (.int (bI b)))) (zW tx Z')) n Z1 → C 146 [(0, .ref 0), (6, .int (nI i))] [] (zW tx Z1) 0 0 := by
      intro n
      induction n with
      | zero =>
        intro i Z1 hi hz hg hK
        refine hC _ _ _ _ _ _ ?_
        exact And.intro (fun _ => ⟨rfl, hK⟩) (fun c1 => absurd (nI_lt (a := 3) (b := i) (by omega) (by omega)) c1)
      | succ n ih =>
        intro i Z1 hi hz hg hK
        rw [rPostsK] at hK
        refine hC _ _ _ _ _ _ ?_
        refine And.intro (fun c1 => absurd c1 (nI_nlt (b := i) (a := 3) (by omega) (by omega))) (fun _ => ?_)
        refine ⟨by decide, tx, Z1.1, 7, _, rfl, rfl, rfl, hz.1, And.intro (fun c2 => ?_) (fun c2 => ?_)⟩
        · have c2 : seeB tx Z1.1 (kb 7) = false := bI_0.mp c2
          rw [if_neg (by rw [c2]; decide)] at hK
          exact ⟨rfl, hK⟩
        · have c2 : seeB tx Z1.1 (kb 7) = true := bI_n0.mp c2
          rw [if_pos c2] at hK
          refine ⟨tx, Z1, Z.2.2.1.2.2.2.2.2.2.2, rfl, rfl, hz, hg, rPostK_mono (e := Z1.1.2.2.1) ⟨⟨hz.1, rfl⟩, hz.2⟩ hg (fun b Z' hz' hg' hk => ?_) hK⟩
          cases b with
          | true =>
            rw [if_pos rfl] at hk
            have h9 := ih (i + 1) Z' (by omega) hz'.ok hg' hk
            rw [← nI_1 i] at h9
            exact And.intro (fun _ => h9) (fun z => absurd z (by decide))
          | false =>
            rw [if_neg (by decide)] at hk
            exact And.intro (fun z => absurd rfl z) (fun _ => ⟨rfl, hk⟩)
    have at119 : ∀ (a b d c : Int32) (N : NT), nOk N → rRoad3 tx Z a b d c N (fun b Z' => K (.inl (some (.int (bI b)))) (zW tx Z')) → C 119 [(0, .ref 0), (1, .int a), (3, .int b), (4, .int d), (5, .int c)] [] (zW tx (zN Z N)) 0 0 := by
      intro a b d c N hN hK
      refine hC _ _ _ _ _ _ (And.intro (fun c2 => ?_) (fun c2 => ?_))
      · rw [rRoad3, if_neg c2] at hK
        refine ⟨Z.2.2.1, _, _, _, _, rfl, rfl, cR, ?_⟩
        exact loop 4 0 (zR Z N (roadAdd Z.2.2.1 a b d c)) rfl ⟨hN, hB, rOk_add hR cR, hL, hG⟩ rfl hK
      · have c2 : c = -1 := c2
        rw [rRoad3, if_pos c2] at hK
        exact ⟨rfl, hK⟩
    have at90 : ∀ (a b d : Int32) (N : NT), nOk N → kwNumK tx 15 0 999 d N (fun c N' => rRoad3 tx Z a b d c N' (fun b Z' => K (.inl (some (.int (bI b)))) (zW tx Z'))) → C 90 [(0, .ref 0), (1, .int a), (3, .int b), (4, .int d)] [] (zW tx (zN Z N)) 0 0 := by
      intro a b d N hN hK
      rw [kwNumK] at hK
      refine hC _ _ _ _ _ _ (And.intro (fun c2 => ?_) (fun c2 => ?_))
      · have c2 : d = -1 := c2
        rw [if_pos c2] at hK
        exact at119 a b d (-1) N hN hK
      · rw [if_neg c2] at hK
        refine ⟨by decide, tx, N, 15, _, rfl, rfl, rfl, hN, fun c3 => ?_, fun c3 => ?_⟩
        · have c3 : seeB tx N (kb 15) = true := c3
          rw [if_pos c3] at hK
          refine And.intro (fun z => absurd z (by decide)) (fun _ => ?_)
          exact ⟨tx, stepF tx N, _, _, rfl, rfl, (stepF_ok hN).1, at119 a b d _ _ (nOk_num (stepF_ok hN).1) hK⟩
        · have c3 : seeB tx N (kb 15) = false := c3
          rw [if_neg (by rw [c3]; decide)] at hK
          exact And.intro (fun _ => at119 a b d (-1) (failF N 1) hN hK) (fun z => absurd rfl z)
    have at49 : ∀ (a p : Int32) (v : Int32 × NT), nOk v.2 → rRoad2 tx Z a p v (fun b Z' => K (.inl (some (.int (bI b)))) (zW tx Z')) → C 49 [(0, .ref 0), (1, .int a), (2, .int p), (3, .int v.1)] [] (zW tx (zN Z v.2)) 0 0 := by
      intro a p v hv hK
      rw [rRoad2] at hK
      refine hC _ _ _ _ _ _ (And.intro (fun c2 => ?_) (fun c2 => ?_))
      · rw [if_neg c2] at hK
        refine And.intro (fun c3 => ?_) (fun c3 => ?_)
        · have c3 : ¬ v.1 = a := c3
          rw [if_neg c3, kwNumK, if_neg (by decide)] at hK
          refine ⟨by decide, tx, v.2, 14, _, rfl, rfl, rfl, hv, fun c4 => ?_, fun c4 => ?_⟩
          · have c4 : seeB tx v.2 (kb 14) = true := c4
            rw [if_pos c4] at hK
            refine And.intro (fun z => absurd z (by decide)) (fun _ => ?_)
            exact ⟨tx, stepF tx v.2, _, _, rfl, rfl, (stepF_ok hv).1, at90 a v.1 _ _ (nOk_num (stepF_ok hv).1) hK⟩
          · have c4 : seeB tx v.2 (kb 14) = false := c4
            rw [if_neg (by rw [c4]; decide)] at hK
            exact And.intro (fun _ => at90 a v.1 (-1) (failF v.2 1) hv hK) (fun z => absurd rfl z)
        · have c3 : v.1 = a := c3
          rw [if_pos c3] at hK
          exact ⟨tx, v.2, _, _, rfl, rfl, rfl, hK⟩
      · have c2 : v.1 = -1 := c2
        rw [if_pos c2] at hK
        exact ⟨rfl, hK⟩
    refine ⟨tx, Z.1, rfl, rfl, hN.s, tx, stepF tx Z.1, Z.2.1, _, rfl, rfl, hN1, hB, ?_⟩
    have hN2 := nOk_use (tx := tx) (B := Z.2.1) (s := 0) hN1
    generalize useF tx Z.2.1 (stepF tx Z.1) 0 = u at hK hN2 ⊢
    rw [rRoad1] at hK
    refine And.intro (fun c2 => ?_) (fun c2 => ?_)
    · rw [if_neg c2] at hK
      exact ⟨tx, u.2, Z.2.1, _, rfl, rfl, hN2, hB, at49 u.1 _ _ (nOk_use hN2) hK⟩
    · have c2 : u.1 = -1 := c2
      rw [if_pos c2] at hK
      exact at49 u.1 _ (-1, u.2) hN2 hK
  · rw [rRoadK, if_neg (of_decide_eq_false (bI_0.mp c))] at hK
    exact ⟨tx, Z.1, _, rfl, rfl, rfl, hK⟩
theorem rNameK_mono {tx : Nat → Int32} {e : Nat} {Z : ZT} {s : Nat} {k k' : Bool → ZT → Prop} (hz : zE e Z) (h : ∀ b Z', zE e Z' → k b Z' → k' b Z') (hk : rNameK tx Z s k) : rNameK tx Z s k' := by
  obtain ⟨hN, hB, hR, hL, hG⟩ := hz
  have hN1 := nE_step (tx := tx) hN
  unfold rNameK at hk ⊢
  split
  · next c =>
    rw [if_pos c] at hk
    split
    · next c2 =>
      rw [if_pos c2] at hk
      split
      · next c3 => rw [if_pos c3] at hk; exact h _ (zB Z _ _) ⟨nE_step hN1, c.1, hR, hL, hG⟩ hk
      · next c3 => rw [if_neg c3] at hk; exact h _ (zN Z (failF (stepF tx Z.1) 3)) ⟨hN1, hB, hR, hL, hG⟩ hk
    · next c2 => rw [if_neg c2] at hk; exact h _ (zN Z (failF (stepF tx Z.1) 1)) ⟨hN1, hB, hR, hL, hG⟩ hk
  · next c => rw [if_neg c] at hk; exact h _ (zN Z (failF Z.1 5)) ⟨hN, hB, hR, hL, hG⟩ hk
theorem rLawK_mono {tx : Nat → Int32} {e : Nat} {Z : ZT} {k k' : Bool → ZT → Prop} (hz : zE e Z) (h : ∀ b Z', zE e Z' → k b Z' → k' b Z') (hk : rLawK tx Z k) : rLawK tx Z k' := by
  obtain ⟨hN, hB, hR, hL, hG⟩ := hz
  have hN1 := nE_step (tx := tx) hN
  unfold rLawK at hk ⊢
  split
  · next c =>
    rw [if_pos c] at hk
    have four : ∀ ld ac kd o si (u : Int32 × NT), nE e u.2 → rLaw4 Z ld ac kd o si u k → rLaw4 Z ld ac kd o si u k' := by
      intro ld ac kd o si u hu hk
      unfold rLaw4 at hk ⊢
      split
      · next c2 => rw [if_pos c2] at hk; exact h _ (zN Z u.2) ⟨hu, hB, hR, hL, hG⟩ hk
      · next c2 => rw [if_neg c2] at hk; exact h _ (zL Z u.2 _) ⟨hu, hB, hR, c, hG⟩ hk
    have two : ∀ ld ac (v : Int32 × NT), nE e v.2 → rLaw2 tx Z ld ac v k → rLaw2 tx Z ld ac v k' := by
      intro ld ac v hv hk
      refine kwUseK_mono hv (fun o N hN hk => kwNumK_mono hN (fun si N' hN' hk => ?_) hk) hk
      unfold rLaw3 at hk ⊢
      split
      · next c2 => rw [if_pos c2] at hk; exact h _ (zN Z N') ⟨hN', hB, hR, hL, hG⟩ hk
      · next c2 =>
        rw [if_neg c2] at hk
        split
        · next c3 => rw [if_pos c3] at hk; exact four _ _ _ _ _ _ (nE_num (nE_step hN')) hk
        · next c3 => rw [if_neg c3] at hk; exact four _ _ _ _ _ (999, N') hN' hk
    have hu := nE_use (tx := tx) (B := Z.2.1) (s := 1) hN1
    unfold rLaw1 at hk ⊢
    split
    · next c2 => rw [if_pos c2] at hk; exact h _ (zN Z _) ⟨hu, hB, hR, hL, hG⟩ hk
    · next c2 =>
      rw [if_neg c2] at hk
      split
      · next c3 => rw [if_pos c3] at hk; exact two _ _ _ (nE_use (nE_step hu)) hk
      · next c3 =>
        rw [if_neg c3] at hk
        split
        · next c4 => rw [if_pos c4] at hk; exact two _ _ _ (nE_use (nE_step hu)) hk
        · next c4 => rw [if_neg c4] at hk; exact h _ (zN Z (failF (useF tx Z.2.1 (stepF tx Z.1) 1).2 1)) ⟨hu, hB, hR, hL, hG⟩ hk
  · next c => rw [if_neg c] at hk; exact h _ (zN Z (failF Z.1 5)) ⟨hN, hB, hR, hL, hG⟩ hk
theorem rCasesK_mono {tx : Nat → Int32} {e g : Nat} {k k' : Bool → ZT → Prop} (h : ∀ b Z', zE e Z' → k b Z' → k' b Z') : ∀ (n : Nat) (Z : ZT), zE e Z → Z.2.2.2.2.2.2.2.2.2.2.2.2 = g + 1 → rCasesK tx g k n Z → rCasesK tx g k' n Z
  | 0, Z, hz, _, hk => h _ _ hz hk
  | n + 1, Z, hz, hg, hk => by
    rw [rCasesK] at hk ⊢
    split
    · next c =>
      rw [if_pos c] at hk
      refine rCaseK_mono hz hg (fun b Z' hz' hg' hk => ?_) hk
      cases b with
      | true => exact rCasesK_mono h n Z' hz' hg' hk
      | false => exact h _ _ hz' hk
    · next c => rw [if_neg c] at hk; exact h _ _ hz hk
theorem rPostsK_mono {tx : Nat → Int32} {e r : Nat} {k k' : Bool → ZT → Prop} (h : ∀ b Z', zE e Z' → k b Z' → k' b Z') : ∀ (n : Nat) (Z : ZT), zE e Z → Z.2.2.1.2.2.2.2.2.2.2 = r + 1 → rPostsK tx r k n Z → rPostsK tx r k' n Z
  | 0, Z, hz, _, hk => h _ _ hz hk
  | n + 1, Z, hz, hg, hk => by
    rw [rPostsK] at hk ⊢
    split
    · next c =>
      rw [if_pos c] at hk
      refine rPostK_mono hz hg (fun b Z' hz' hg' hk => ?_) hk
      cases b with
      | true => exact rPostsK_mono h n Z' hz' hg' hk
      | false => exact h _ _ hz' hk
    · next c => rw [if_neg c] at hk; exact h _ _ hz hk
theorem rGiftK_mono {tx : Nat → Int32} {e : Nat} {Z : ZT} {k k' : Bool → ZT → Prop} (hz : zE e Z) (h : ∀ b Z', zE e Z' → k b Z' → k' b Z') (hk : rGiftK tx Z k) : rGiftK tx Z k' := by
  obtain ⟨hN, hB, hR, hL, hG⟩ := hz
  unfold rGiftK at hk ⊢
  split
  · next c =>
    rw [if_pos c] at hk
    refine kwUseK_mono (nE_use (nE_step hN)) (fun o N hN hk => kwNumK_mono hN (fun f N' hN' hk => ?_) hk) hk
    unfold rGift3 at hk ⊢
    split
    · next c2 => rw [if_pos c2] at hk; exact h _ (zN Z N') ⟨hN', hB, hR, hL, hG⟩ hk
    · next c2 => rw [if_neg c2] at hk; exact rCasesK_mono h 4 (zG Z N' _) ⟨hN', hB, hR, hL, gOk_add hG c⟩ rfl hk
  · next c => rw [if_neg c] at hk; exact h _ (zN Z (failF Z.1 5)) ⟨hN, hB, hR, hL, hG⟩ hk
theorem rRoadK_mono {tx : Nat → Int32} {e : Nat} {Z : ZT} {k k' : Bool → ZT → Prop} (hz : zE e Z) (h : ∀ b Z', zE e Z' → k b Z' → k' b Z') (hk : rRoadK tx Z k) : rRoadK tx Z k' := by
  obtain ⟨hN, hB, hR, hL, hG⟩ := hz
  unfold rRoadK at hk ⊢
  split
  · next c =>
    rw [if_pos c] at hk
    have two : ∀ a p (v : Int32 × NT), nE e v.2 → rRoad2 tx Z a p v k → rRoad2 tx Z a p v k' := by
      intro a p v hv hk
      unfold rRoad2 at hk ⊢
      split
      · next c2 => rw [if_pos c2] at hk; exact h _ (zN Z v.2) ⟨hv, hB, hR, hL, hG⟩ hk
      · next c2 =>
        rw [if_neg c2] at hk
        split
        · next c3 => rw [if_pos c3] at hk; exact h _ (zN Z (failAtF v.2 3 p)) ⟨hv, hB, hR, hL, hG⟩ hk
        · next c3 =>
          rw [if_neg c3] at hk
          refine kwNumK_mono hv (fun d N hN hk => kwNumK_mono hN (fun cc N' hN' hk => ?_) hk) hk
          unfold rRoad3 at hk ⊢
          split
          · next c4 => rw [if_pos c4] at hk; exact h _ (zN Z N') ⟨hN', hB, hR, hL, hG⟩ hk
          · next c4 => rw [if_neg c4] at hk; exact rPostsK_mono h 4 (zR Z N' _) ⟨hN', hB, rOk_add hR c, hL, hG⟩ rfl hk
    have hu := nE_use (tx := tx) (B := Z.2.1) (s := 0) (nE_step (tx := tx) hN)
    unfold rRoad1 at hk ⊢
    split
    · next c2 => rw [if_pos c2] at hk; exact two _ _ (-1, _) hu hk
    · next c2 => rw [if_neg c2] at hk; exact two _ _ _ (nE_use hu) hk
  · next c => rw [if_neg c] at hk; exact h _ (zN Z (failF Z.1 5)) ⟨hN, hB, hR, hL, hG⟩ hk
