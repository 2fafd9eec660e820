/-- the reader, and the book with all that it holds -/
abbrev ZT : Type := NT × BT × RT × LT × GT
def zW (tx : Nat → Int32) (Z : ZT) : List q_C := readW 0 (.ref 3) tx Z.1 ++ bookW 3 Z.2.1 Z.2.2.1 Z.2.2.2.1 Z.2.2.2.2
def zOk (Z : ZT) : Prop := nOk Z.1 ∧ Z.2.1.2.2.2.2 ≤ 25 ∧ rOk Z.2.2.1 ∧ L_n Z.2.2.2.1 ≤ 24 ∧ gOk Z.2.2.2.2
def zN (Z : ZT) (N : NT) : ZT := (N, Z.2)
def zB (Z : ZT) (N : NT) (B : BT) : ZT := (N, B, Z.2.2)
def zR (Z : ZT) (N : NT) (R : RT) : ZT := (N, Z.2.1, R, Z.2.2.2)
def zL (Z : ZT) (N : NT) (L : LT) : ZT := (N, Z.2.1, Z.2.2.1, L, Z.2.2.2.2)
def zG (Z : ZT) (N : NT) (G : GT) : ZT := (N, Z.2.1, Z.2.2.1, Z.2.2.2.1, G)
theorem nOk_fail {N : NT} {x : Int32} (h : nOk N) : nOk (failF N x) := h
theorem nOk_use {tx : Nat → Int32} {B : BT} {N : NT} {s : Int32} (h : nOk N) : nOk (useF tx B N s).2 := by
  unfold useF
  split
  · split
    · exact h
    · split
      · exact (stepF_ok h).1
      · exact h
  · exact h
theorem nOk_num {tx : Nat → Int32} {N : NT} {a b : Int32} (h : nOk N) : nOk (numF tx N a b).2 := by
  unfold numF
  split
  · split
    · exact h
    · exact (stepF_ok h).1
  · exact h
def rNameK {α : Type} (tx : Nat → Int32) (Z : ZT) (s : Nat) (k : Bool → ZT → α) : α :=
  if Z.2.1.2.2.2.2 < 25 ∧ Z.2.1.1 s < q_ROOM s then
    (if isNm tx (stepF tx Z.1) = true then
      (if oI (fstO (fun i => decide (Z.2.1.2.1 i = (stepF tx Z.1).2.2.2.2.2.2.2.2.1)) 0 Z.2.1.2.2.2.2) = -1 then k true (zB Z (stepF tx (stepF tx Z.1)) (bookTell Z.2.1 (stepF tx Z.1).2.2.2.2.2.2.2.2.1 s))
       else k false (zN Z (failF (stepF tx Z.1) 3)))
     else k false (zN Z (failF (stepF tx Z.1) 1)))
  else k false (zN Z (failF Z.1 5))

def tX7_readName : List q_I := [(0, .aload_n 0, 1, 0, 0), (1, .getfield 43, 3, 0, 0), (4, .iload_n 1, 1, 0, 0), (5, .invokevirtual 103, 3, 0, 0), (8, .ifCond .ne 9, 3, 0, 17), (11, .aload_n 0, 1, 0, 0), (12, .iconst 5, 1, 5, 0), (13, .invokevirtual 83, 3, 0, 0), (16, .ireturn, 1, 0, 0), (17, .aload_n 0, 1, 0, 0), (18, .invokevirtual 73, 3, 0, 0), (21, .aload_n 0, 1, 0, 0), (22, .invokevirtual 108, 3, 0, 0), (25, .ifCond .ne 9, 3, 0, 34), (28, .aload_n 0, 1, 0, 0), (29, .iconst 1, 1, 1, 0), (30, .invokevirtual 83, 3, 0, 0), (33, .ireturn, 1, 0, 0), (34, .aload_n 0, 1, 0, 0), (35, .getfield 43, 3, 0, 0), (38, .aload_n 0, 1, 0, 0), (39, .getfield 111, 3, 0, 0), (42, .invokevirtual 115, 3, 0, 0), (45, .iconst (-1), 1, (-1), 0), (46, .if_icmp .eq 9, 3, 0, 55), (49, .aload_n 0, 1, 0, 0), (50, .iconst 3, 1, 3, 0), (51, .invokevirtual 83, 3, 0, 0), (54, .ireturn, 1, 0, 0), (55, .aload_n 0, 1, 0, 0), (56, .getfield 43, 3, 0, 0), (59, .aload_n 0, 1, 0, 0), (60, .getfield 111, 3, 0, 0), (63, .iload_n 1, 1, 0, 0), (64, .invokevirtual 119, 3, 0, 0), (67, .aload_n 0, 1, 0, 0), (68, .invokevirtual 73, 3, 0, 0), (71, .iconst 1, 1, 1, 0), (72, .ireturn, 1, 0, 0)]
theorem tX7_readName_ok : (tX7_readName.all (q_okI cX7_readName)) = true := by decide +kernel

abbrev fdX7_readName : List (Nat ⊕ (Nat × Nat)) := [.inl 0, .inr (0, 2), .inr (0, 3), .inr (0, 5), .inr (3, 0), .inr (3, 1), .inr (3, 2), .inr (3, 3), .inr (3, 5), .inr (8, 0), .inr (8, 1), .inr (8, 2), .inr (8, 3), .inr (8, 4), .inr (8, 5), .inr (8, 6), .inr (3, 6), .inr (16, 0), .inr (16, 1), .inr (16, 2), .inr (16, 3), .inr (16, 4), .inr (16, 5), .inr (16, 6), .inr (3, 7), .inr (24, 0), .inr (24, 1), .inr (24, 2), .inr (24, 3), .inr (24, 4), .inr (24, 5), .inr (24, 6), .inr (24, 7)]
def spX7_readName : q_P := fun a w K => ∃ (tx : Nat → Int32) (Z : ZT) (s : Nat), w = zW tx Z ∧ a = [.ref 0, .int (nI s)] ∧ zOk Z ∧ s < 4 ∧ rNameK tx Z s (fun b Z' => K (.inl (some (.int (bI b)))) (zW tx Z'))
abbrev csX7_readName : q_S := (2, 7, 2, 2, 0, 0, fdX7_readName, spX7_readName)
theorem coX7_103 (l : Launch) : q_CO l RX7 103 csX0_hasRoom := ⟨yX0_hasRoom, cX0_hasRoom, (some .boolean), 1, ⟨by decide +kernel, by decide +kernel, by decide +kernel⟩, q_G_i 2 (by decide +kernel) rfl, Or.inl ⟨by decide, rfl, rfl, q_G_i 640 (by decide +kernel) rfl, q_G_i 641 (by decide +kernel) rfl, q_G_i 642 (by decide +kernel) rfl, Or.inl ⟨q_G_i 643 (by decide +kernel) rfl, ctX0_hasRoom l⟩⟩⟩
theorem coX7_119 (l : Launch) : q_CO l RX7 119 csX0_tell := ⟨yX0_tell, cX0_tell, none, 2, ⟨by decide +kernel, by decide +kernel, by decide +kernel⟩, q_G_i 2 (by decide +kernel) rfl, Or.inl ⟨by decide, rfl, rfl, q_G_i 646 (by decide +kernel) rfl, q_G_i 647 (by decide +kernel) rfl, q_G_i 648 (by decide +kernel) rfl, Or.inl ⟨q_G_i 649 (by decide +kernel) rfl, ctX0_tell l⟩⟩⟩
def EX7_readName : q_E := (tX7_readName, [], 2, flX7, [(103, csX0_hasRoom), (83, csX7_fail), (73, csX7_step), (108, csX7_isName), (115, csX0_find), (119, csX0_tell)], [], [], [], [], [], 2, 0, 0, (some .boolean), [], [], 0, 0)
theorem okX7_readName (l : Launch) : q_Eok l RX7 cX7_readName EX7_readName := ⟨tX7_readName_ok, flX7_ok, List.forall_mem_cons.mpr ⟨(coX7_103 l), List.forall_mem_cons.mpr ⟨(coX7_83 l), List.forall_mem_cons.mpr ⟨(coX7_73 l), List.forall_mem_cons.mpr ⟨(coX7_108 l), List.forall_mem_cons.mpr ⟨(coX7_115 l), List.forall_mem_cons.mpr ⟨(coX7_119 l), q_nil⟩⟩⟩⟩⟩⟩, q_nil, q_nil, q_nil, q_nil, q_nil, (fun h => absurd h (by decide))⟩
set_option maxRecDepth 100000 in
set_option maxHeartbeats 4000000 in
theorem ctX7_readName (l : Launch) : q_CT l yX7_readName (.code yX7_readName cX7_readName 2 (some .boolean)) 2 0 0 spX7_readName := by
  refine q_ct_of EX7_readName (by decide +kernel) (okX7_readName l) rfl rfl rfl rfl rfl q_nil (fun ci h => by cases h) rfl ?_
  intro a w K h
  obtain ⟨tx, Z, s, rfl, rfl, ⟨hN, hB, hR, hL, hG⟩, hs, hK⟩ := h
  refine ⟨Nat.le_of_ble_eq_true rfl, fun C hC => hC _ _ _ _ _ _ ?_⟩
  have hN1 := (stepF_ok (tx := tx) hN).1
  refine ⟨Z.2.1, _, _, _, s, rfl, rfl, hs, hB, And.intro (fun c => ?_) (fun c => ?_)⟩
  · have c := of_decide_eq_true (bI_n0.mp c)
    rw [rNameK, if_pos c] at hK
    refine ⟨tx, Z.1, rfl, rfl, hN.s, tx, stepF tx Z.1, rfl, rfl, hN1, And.intro (fun c2 => ?_) (fun c2 => ?_)⟩
    · rw [if_pos (bI_n0.mp c2)] at hK
      refine ⟨Z.2.1, _, _, _, _, rfl, rfl, hB, And.intro (fun c3 => ?_) (fun c3 => ?_)⟩
      · rw [if_pos c3] at hK
        exact ⟨Z.2.1, _, _, _, _, s, rfl, rfl, hs, c.1, tx, stepF tx Z.1, rfl, rfl, hN1.s, rfl, hK⟩
      · rw [if_neg c3] at hK
        exact ⟨tx, stepF tx Z.1, _, rfl, rfl, rfl, hK⟩
    · rw [if_neg (by rw [bI_0.mp c2]; decide)] at hK
      exact ⟨tx, stepF tx Z.1, _, rfl, rfl, rfl, hK⟩
  · rw [rNameK, if_neg (of_decide_eq_false (bI_0.mp c))] at hK
    exact ⟨tx, Z.1, _, rfl, rfl, rfl, hK⟩
/-- a use behind a keyword -/
def kwUseK {α : Type} (tx : Nat → Int32) (B : BT) (t : Nat) (s : Int32) (u : Int32 × NT) (k : Int32 → NT → α) : α :=
  if u.1 = -1 then k (-1) u.2 else if seeB tx u.2 (kb t) = true then k (useF tx B (stepF tx u.2) s).1 (useF tx B (stepF tx u.2) s).2 else k (-1) (failF u.2 1)
def rPostK {α : Type} (tx : Nat → Int32) (Z : ZT) (r : Nat) (k : Bool → ZT → α) : α :=
  if rpN Z.2.2.1 r < 3 then kwUseK tx Z.2.1 16 1 (useF tx Z.2.1 (stepF tx Z.1) 3) (fun v N' => if v = -1 then k false (zN Z N') else k true (zR Z N' (roadPost Z.2.2.1 r (useF tx Z.2.1 (stepF tx Z.1) 3).1 v)))
  else k false (zN Z (failF Z.1 5))
def tX7_readPost : List q_I := [(0, .aload_n 0, 1, 0, 0), (1, .getfield 43, 3, 0, 0), (4, .getfield 123, 3, 0, 0), (7, .invokevirtual 159, 3, 0, 0), (10, .ifCond .ne 9, 3, 0, 19), (13, .aload_n 0, 1, 0, 0), (14, .iconst 5, 1, 5, 0), (15, .invokevirtual 83, 3, 0, 0), (18, .ireturn, 1, 0, 0), (19, .aload_n 0, 1, 0, 0), (20, .invokevirtual 73, 3, 0, 0), (23, .aload_n 0, 1, 0, 0), (24, .iconst 3, 1, 3, 0), (25, .invokevirtual 131, 3, 0, 0), (28, .istore_n 1, 1, 0, 0), (29, .iload_n 1, 1, 0, 0), (30, .iconst (-1), 1, (-1), 0), (31, .if_icmp .eq 20, 3, 0, 51), (34, .aload_n 0, 1, 0, 0), (35, .ldc 162, 2, 0, 0), (37, .invokevirtual 144, 3, 0, 0), (40, .ifCond .eq 11, 3, 0, 51), (43, .aload_n 0, 1, 0, 0), (44, .iconst 1, 1, 1, 0), (45, .invokevirtual 131, 3, 0, 0), (48, .goto 4, 3, 0, 52), (51, .iconst (-1), 1, (-1), 0), (52, .istore_n 2, 1, 0, 0), (53, .iload_n 2, 1, 0, 0), (54, .iconst (-1), 1, (-1), 0), (55, .if_icmp .ne 5, 3, 0, 60), (58, .iconst 0, 1, 0, 0), (59, .ireturn, 1, 0, 0), (60, .aload_n 0, 1, 0, 0), (61, .getfield 43, 3, 0, 0), (64, .getfield 123, 3, 0, 0), (67, .iload_n 1, 1, 0, 0), (68, .iload_n 2, 1, 0, 0), (69, .invokevirtual 164, 3, 0, 0), (72, .iconst 1, 1, 1, 0), (73, .ireturn, 1, 0, 0)]
theorem tX7_readPost_ok : (tX7_readPost.all (q_okI cX7_readPost)) = true := by decide +kernel

abbrev fdX7_readPost : List (Nat ⊕ (Nat × Nat)) := [.inl 0, .inr (0, 2), .inr (0, 3), .inr (0, 5), .inr (3, 0), .inr (3, 1), .inr (3, 2), .inr (3, 3), .inr (3, 5), .inr (8, 0), .inr (8, 1), .inr (8, 2), .inr (8, 3), .inr (8, 4), .inr (8, 5), .inr (8, 6), .inr (3, 6), .inr (16, 0), .inr (16, 1), .inr (16, 2), .inr (16, 3), .inr (16, 4), .inr (16, 5), .inr (16, 6), .inr (3, 7), .inr (24, 0), .inr (24, 1), .inr (24, 2), .inr (24, 3), .inr (24, 4), .inr (24, 5), .inr (24, 6), .inr (24, 7)]
def spX7_readPost : q_P := fun a w K => ∃ (tx : Nat → Int32) (Z : ZT) (r : Nat), w = zW tx Z ∧ a = [.ref 0] ∧ zOk Z ∧ Z.2.2.1.2.2.2.2.2.2.2 = r + 1 ∧ rPostK tx Z r (fun b Z' => K (.inl (some (.int (bI b)))) (zW tx Z'))
abbrev csX7_readPost : q_S := (1, 7, 6, 3, 0, 0, fdX7_readPost, spX7_readPost)
theorem coX7_159 (l : Launch) : q_CO l RX7 159 csX8_lastHasPostRoom := ⟨yX8_lastHasPostRoom, cX8_lastHasPostRoom, (some .boolean), 0, ⟨by decide +kernel, by decide +kernel, by decide +kernel⟩, q_G_i 3 (by decide +kernel) rfl, Or.inl ⟨by decide, rfl, rfl, q_G_i 668 (by decide +kernel) rfl, q_G_i 669 (by decide +kernel) rfl, q_G_i 670 (by decide +kernel) rfl, Or.inl ⟨q_G_i 671 (by decide +kernel) rfl, ctX8_lastHasPostRoom l⟩⟩⟩
theorem coX7_131 (l : Launch) : q_CO l RX7 131 csX7_use := ⟨yX7_use, cX7_use, (some .int), 1, ⟨by decide +kernel, by decide +kernel, by decide +kernel⟩, q_G_i 6 (by decide +kernel) rfl, Or.inl ⟨by decide, rfl, rfl, q_G_i 608 (by decide +kernel) rfl, q_G_i 610 (by decide +kernel) rfl, q_G_s (n := 13) 10 (by decide +kernel), Or.inl ⟨q_G_i 611 (by decide +kernel) rfl, ctX7_use l⟩⟩⟩
theorem coX7_144 (l : Launch) : q_CO l RX7 144 csX7_goBy := ⟨yX7_goBy, cX7_goBy, (some .boolean), 1, ⟨by decide +kernel, by decide +kernel, by decide +kernel⟩, q_G_i 6 (by decide +kernel) rfl, Or.inl ⟨by decide, rfl, rfl, q_G_i 623 (by decide +kernel) rfl, q_G_i 625 (by decide +kernel) rfl, q_G_s (n := 13) 12 (by decide +kernel), Or.inl ⟨q_G_i 626 (by decide +kernel) rfl, ctX7_goBy l⟩⟩⟩
theorem coX7_164 (l : Launch) : q_CO l RX7 164 csX8_addPostToLast := ⟨yX8_addPostToLast, cX8_addPostToLast, none, 2, ⟨by decide +kernel, by decide +kernel, by decide +kernel⟩, q_G_i 3 (by decide +kernel) rfl, Or.inl ⟨by decide, rfl, rfl, q_G_i 673 (by decide +kernel) rfl, q_G_i 674 (by decide +kernel) rfl, q_G_i 675 (by decide +kernel) rfl, Or.inl ⟨q_G_i 676 (by decide +kernel) rfl, ctX8_addPostToLast l⟩⟩⟩
def EX7_readPost : q_E := (tX7_readPost, [], 3, flX7, [(159, csX8_lastHasPostRoom), (83, csX7_fail), (73, csX7_step), (131, csX7_use), (144, csX7_goBy), (164, csX8_addPostToLast)], [], [], [(162, 16)], [], [], 6, 0, 0, (some .boolean), [], [], 0, 0)
theorem okX7_readPost (l : Launch) : q_Eok l RX7 cX7_readPost EX7_readPost := ⟨tX7_readPost_ok, flX7_ok, List.forall_mem_cons.mpr ⟨(coX7_159 l), List.forall_mem_cons.mpr ⟨(coX7_83 l), List.forall_mem_cons.mpr ⟨(coX7_73 l), List.forall_mem_cons.mpr ⟨(coX7_131 l), List.forall_mem_cons.mpr ⟨(coX7_144 l), List.forall_mem_cons.mpr ⟨(coX7_164 l), q_nil⟩⟩⟩⟩⟩⟩, q_nil, q_nil, List.forall_mem_cons.mpr ⟨⟨_, rfl, rfl, rfl⟩, q_nil⟩, q_nil, q_nil, (fun h => absurd h (by decide))⟩
set_option maxRecDepth 100000 in
set_option maxHeartbeats 4000000 in
theorem ctX7_readPost (l : Launch) : q_CT l yX7_readPost (.code yX7_readPost cX7_readPost 3 (some .boolean)) 6 0 0 spX7_readPost := by
  refine q_ct_of EX7_readPost (by decide +kernel) (okX7_readPost l) rfl rfl rfl rfl rfl q_nil (fun ci h => by cases h) rfl ?_
  intro a w K h
  obtain ⟨tx, Z, r, rfl, rfl, ⟨hN, hB, hR, hL, hG⟩, hr, hK⟩ := h
  refine ⟨Nat.le_of_ble_eq_true rfl, fun C hC => hC _ _ _ _ _ _ ?_⟩
  have hN1 := (stepF_ok (tx := tx) hN).1
  refine ⟨Z.2.2.1, r, rfl, rfl, hR, hr, And.intro (fun c => ?_) (fun c => ?_)⟩
  · have c := of_decide_eq_true (bI_n0.mp c)
    rw [rPostK, if_pos c, kwUseK] at hK
    refine ⟨tx, Z.1, rfl, rfl, hN.s, tx, stepF tx Z.1, Z.2.1, _, rfl, rfl, hN1, hB, ?_⟩
    have hN2 := nOk_use (tx := tx) (B := Z.2.1) (s := 3) hN1
    generalize useF tx Z.2.1 (stepF tx Z.1) 3 = u at hK hN2 ⊢
    refine And.intro (fun c2 => ?_) (fun c2 => ?_)
    · rw [if_pos c2] at hK
      exact And.intro (fun c3 => absurd rfl c3) (fun _ => ⟨rfl, hK⟩)
    · rw [if_neg c2] at hK
      refine ⟨by decide, tx, u.2, 16, _, rfl, rfl, rfl, hN2, fun c3 => ?_, fun c3 => ?_⟩
      · have c3 : seeB tx u.2 (kb 16) = true := c3
        rw [if_pos c3] at hK
        refine And.intro (fun z => absurd z (by decide)) (fun _ => ?_)
        refine ⟨tx, stepF tx u.2, Z.2.1, _, rfl, rfl, (stepF_ok hN2).1, hB, ?_⟩
        generalize useF tx Z.2.1 (stepF tx u.2) 1 = v at hK ⊢
        refine And.intro (fun c4 => ?_) (fun c4 => ?_)
        · rw [if_neg c4] at hK
          exact ⟨Z.2.2.1, r, _, _, rfl, rfl, hR, hr, c, rfl, hK⟩
        · have c4 : v.1 = -1 := c4
          rw [if_pos c4] at hK
          exact ⟨rfl, hK⟩
      · have c3 : seeB tx u.2 (kb 16) = false := c3
        rw [if_neg (by rw [c3]; decide), if_pos rfl] at hK
        exact And.intro (fun _ => And.intro (fun c4 => absurd rfl c4) (fun _ => ⟨rfl, hK⟩)) (fun z => absurd rfl z)
  · rw [rPostK, if_neg (of_decide_eq_false (bI_0.mp c))] at hK
    exact ⟨tx, Z.1, _, rfl, rfl, rfl, hK⟩
