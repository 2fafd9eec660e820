def rLineB {α : Type} (tx : Nat → Int32) (Z : ZT) (k : Bool → ZT → α) : α :=
  if seeB tx Z.1 (kb 1) = true then rNameK tx Z 0 k else
  if seeB tx Z.1 (kb 2) = true then rNameK tx Z 1 k else
  if seeB tx Z.1 (kb 3) = true then rNameK tx Z 2 k else
  if seeB tx Z.1 (kb 4) = true then rNameK tx Z 3 k else
  if seeB tx Z.1 (kb 5) = true then rRoadK tx Z k else
  if seeB tx Z.1 (kb 6) = true then rGiftK tx Z k else
  k false (zN Z (failF Z.1 1))
def rLineK {α : Type} (tx : Nat → Int32) (Z : ZT) (k : Bool → ZT → α) : α :=
  if seeB tx Z.1 (kb 0) = true then rLawK tx Z k else if Z.1.2.2.2.2.1 = 0 then rLineB tx Z k else k false (zN Z (failF Z.1 1))
theorem rLineK_mono {tx : Nat → Int32} {e : Nat} {Z : ZT} {k k' : Bool → ZT → Prop} (hz : zE e Z) (h : ∀ b Z', zE e Z' → k b Z' → k' b Z') (hk : rLineK tx Z k) : rLineK tx Z k' := by
  unfold rLineK at hk ⊢
  split
  · next c => rw [if_pos c] at hk; exact rLawK_mono hz h hk
  next c =>
  rw [if_neg c] at hk
  split
  · next c2 =>
    rw [if_pos c2] at hk
    unfold rLineB at hk ⊢
    split
    · next c3 => rw [if_pos c3] at hk; exact rNameK_mono hz h hk
    next c3 =>
    rw [if_neg c3] at hk
    split
    · next c3 => rw [if_pos c3] at hk; exact rNameK_mono hz h hk
    next c3 =>
    rw [if_neg c3] at hk
    split
    · next c3 => rw [if_pos c3] at hk; exact rNameK_mono hz h hk
    next c3 =>
    rw [if_neg c3] at hk
    split
    · next c3 => rw [if_pos c3] at hk; exact rNameK_mono hz h hk
    next c3 =>
    rw [if_neg c3] at hk
    split
    · next c3 => rw [if_pos c3] at hk; exact rRoadK_mono hz h hk
    next c3 =>
    rw [if_neg c3] at hk
    split
    · next c3 => rw [if_pos c3] at hk; exact rGiftK_mono hz h hk
    next c3 =>
    rw [if_neg c3] at hk
    exact h _ (zN Z (failF Z.1 1)) hz hk
  · next c2 => rw [if_neg c2] at hk; exact h _ (zN Z (failF Z.1 1)) hz hk

def tX7_readLine : List q_I := [(0, .aload_n 0, 1, 0, 0), (1, .ldc 25, 2, 0, 0), (3, .invokevirtual 87, 3, 0, 0), (6, .ifCond .eq 8, 3, 0, 14), (9, .aload_n 0, 1, 0, 0), (10, .invokevirtual 91, 3, 0, 0), (13, .ireturn, 1, 0, 0), (14, .aload_n 0, 1, 0, 0), (15, .getfield 57, 3, 0, 0), (18, .ifCond .eq 9, 3, 0, 27), (21, .aload_n 0, 1, 0, 0), (22, .iconst 1, 1, 1, 0), (23, .invokevirtual 83, 3, 0, 0), (26, .ireturn, 1, 0, 0), (27, .aload_n 0, 1, 0, 0), (28, .ldc 9, 2, 0, 0), (30, .invokevirtual 87, 3, 0, 0), (33, .ifCond .eq 9, 3, 0, 42), (36, .aload_n 0, 1, 0, 0), (37, .iconst 0, 1, 0, 0), (38, .invokevirtual 94, 3, 0, 0), (41, .ireturn, 1, 0, 0), (42, .aload_n 0, 1, 0, 0), (43, .ldc 17, 2, 0, 0), (45, .invokevirtual 87, 3, 0, 0), (48, .ifCond .eq 9, 3, 0, 57), (51, .aload_n 0, 1, 0, 0), (52, .iconst 1, 1, 1, 0), (53, .invokevirtual 94, 3, 0, 0), (56, .ireturn, 1, 0, 0), (57, .aload_n 0, 1, 0, 0), (58, .ldc 19, 2, 0, 0), (60, .invokevirtual 87, 3, 0, 0), (63, .ifCond .eq 9, 3, 0, 72), (66, .aload_n 0, 1, 0, 0), (67, .iconst 2, 1, 2, 0), (68, .invokevirtual 94, 3, 0, 0), (71, .ireturn, 1, 0, 0), (72, .aload_n 0, 1, 0, 0), (73, .ldc 21, 2, 0, 0), (75, .invokevirtual 87, 3, 0, 0), (78, .ifCond .eq 9, 3, 0, 87), (81, .aload_n 0, 1, 0, 0), (82, .iconst 3, 1, 3, 0), (83, .invokevirtual 94, 3, 0, 0), (86, .ireturn, 1, 0, 0), (87, .aload_n 0, 1, 0, 0), (88, .ldc 23, 2, 0, 0), (90, .invokevirtual 87, 3, 0, 0), (93, .ifCond .eq 8, 3, 0, 101), (96, .aload_n 0, 1, 0, 0), (97, .invokevirtual 97, 3, 0, 0), (100, .ireturn, 1, 0, 0), (101, .aload_n 0, 1, 0, 0), (102, .ldc 27, 2, 0, 0), (104, .invokevirtual 87, 3, 0, 0), (107, .ifCond .eq 10, 3, 0, 117), (110, .aload_n 0, 1, 0, 0), (111, .invokevirtual 100, 3, 0, 0), (114, .goto 8, 3, 0, 122), (117, .aload_n 0, 1, 0, 0), (118, .iconst 1, 1, 1, 0), (119, .invokevirtual 83, 3, 0, 0), (122, .ireturn, 1, 0, 0)]
theorem tX7_readLine_ok : (tX7_readLine.all (q_okI cX7_readLine)) = true := by decide +kernel

abbrev fdX7_readLine : List (Nat ⊕ (Nat × Nat)) := [.inl 0, .inr (0, 2), .inr (0, 3), .inr (0, 5), .inr (3, 0), .inr (3, 1), .inr (3, 2), .inr (3, 3), .inr (3, 5), .inr (8, 0), .inr (8, 1), .inr (8, 2), .inr (8, 3), .inr (8, 4), .inr (8, 5), .inr (8, 6), .inr (3, 6), .inr (16, 0), .inr (16, 1), .inr (16, 2), .inr (16, 3), .inr (16, 4), .inr (16, 5), .inr (16, 6), .inr (3, 7), .inr (24, 0), .inr (24, 1), .inr (24, 2), .inr (24, 3), .inr (24, 4), .inr (24, 5), .inr (24, 6), .inr (24, 7)]
def spX7_readLine : q_P := fun a w K => ∃ (tx : Nat → Int32) (Z : ZT), w = zW tx Z ∧ a = [.ref 0] ∧ zOk Z ∧ rLineK tx Z (fun b Z' => K (.inl (some (.int (bI b)))) (zW tx Z'))
abbrev csX7_readLine : q_S := (1, 7, 8, 1, 0, 0, fdX7_readLine, spX7_readLine)
theorem coX7_91 (l : Launch) : q_CO l RX7 91 csX7_readLaw := ⟨yX7_readLaw, cX7_readLaw, (some .boolean), 0, ⟨by decide +kernel, by decide +kernel, by decide +kernel⟩, q_G_i 6 (by decide +kernel) rfl, Or.inl ⟨by decide, rfl, rfl, q_G_i 592 (by decide +kernel) rfl, q_G_i 594 (by decide +kernel) rfl, q_G_s (n := 13) 7 (by decide +kernel), Or.inl ⟨q_G_i 595 (by decide +kernel) rfl, ctX7_readLaw l⟩⟩⟩
theorem coX7_94 (l : Launch) : q_CO l RX7 94 csX7_readName := ⟨yX7_readName, cX7_readName, (some .boolean), 1, ⟨by decide +kernel, by decide +kernel, by decide +kernel⟩, q_G_i 6 (by decide +kernel) rfl, Or.inl ⟨by decide, rfl, rfl, q_G_i 636 (by decide +kernel) rfl, q_G_i 638 (by decide +kernel) rfl, q_G_s (n := 13) 14 (by decide +kernel), Or.inl ⟨q_G_i 639 (by decide +kernel) rfl, ctX7_readName l⟩⟩⟩
theorem coX7_97 (l : Launch) : q_CO l RX7 97 csX7_readRoad := ⟨yX7_readRoad, cX7_readRoad, (some .boolean), 0, ⟨by decide +kernel, by decide +kernel, by decide +kernel⟩, q_G_i 6 (by decide +kernel) rfl, Or.inl ⟨by decide, rfl, rfl, q_G_i 650 (by decide +kernel) rfl, q_G_i 652 (by decide +kernel) rfl, q_G_s (n := 13) 15 (by decide +kernel), Or.inl ⟨q_G_i 653 (by decide +kernel) rfl, ctX7_readRoad l⟩⟩⟩
theorem coX7_100 (l : Launch) : q_CO l RX7 100 csX7_readGift := ⟨yX7_readGift, cX7_readGift, (some .boolean), 0, ⟨by decide +kernel, by decide +kernel, by decide +kernel⟩, q_G_i 6 (by decide +kernel) rfl, Or.inl ⟨by decide, rfl, rfl, q_G_i 677 (by decide +kernel) rfl, q_G_i 679 (by decide +kernel) rfl, q_G_s (n := 13) 17 (by decide +kernel), Or.inl ⟨q_G_i 680 (by decide +kernel) rfl, ctX7_readGift l⟩⟩⟩
def EX7_readLine : q_E := (tX7_readLine, [], 1, flX7, [(87, csX7_sees), (91, csX7_readLaw), (83, csX7_fail), (94, csX7_readName), (97, csX7_readRoad), (100, csX7_readGift)], [], [], [(25, 0), (9, 1), (17, 2), (19, 3), (21, 4), (23, 5), (27, 6)], [], [], 8, 0, 0, (some .boolean), [], [], 0, 0)
theorem okX7_readLine (l : Launch) : q_Eok l RX7 cX7_readLine EX7_readLine := ⟨tX7_readLine_ok, flX7_ok, List.forall_mem_cons.mpr ⟨(coX7_87 l), List.forall_mem_cons.mpr ⟨(coX7_91 l), List.forall_mem_cons.mpr ⟨(coX7_83 l), List.forall_mem_cons.mpr ⟨(coX7_94 l), List.forall_mem_cons.mpr ⟨(coX7_97 l), List.forall_mem_cons.mpr ⟨(coX7_100 l), q_nil⟩⟩⟩⟩⟩⟩, q_nil, q_nil, List.forall_mem_cons.mpr ⟨⟨_, rfl, rfl, rfl⟩, List.forall_mem_cons.mpr ⟨⟨_, rfl, rfl, rfl⟩, List.forall_mem_cons.mpr ⟨⟨_, rfl, rfl, rfl⟩, List.forall_mem_cons.mpr ⟨⟨_, rfl, rfl, rfl⟩, List.forall_mem_cons.mpr ⟨⟨_, rfl, rfl, rfl⟩, List.forall_mem_cons.mpr ⟨⟨_, rfl, rfl, rfl⟩, List.forall_mem_cons.mpr ⟨⟨_, rfl, rfl, rfl⟩, q_nil⟩⟩⟩⟩⟩⟩⟩, q_nil, q_nil, (fun h => absurd h (by decide))⟩
set_option maxRecDepth 100000 in
set_option maxHeartbeats 4000000 in
theorem ctX7_readLine (l : Launch) : q_CT l yX7_readLine (.code yX7_readLine cX7_readLine 1 (some .boolean)) 8 0 0 spX7_readLine := by
  refine q_ct_of EX7_readLine (by decide +kernel) (okX7_readLine l) rfl rfl rfl rfl rfl q_nil (fun ci h => by cases h) rfl ?_
  intro a w K h
  obtain ⟨tx, Z, rfl, rfl, hz, hK⟩ := h
  have hN := hz.1
  have he : zE Z.1.2.2.1 Z := ⟨⟨hz.1, rfl⟩, hz.2⟩
  refine ⟨Nat.le_of_ble_eq_true rfl, fun C hC => hC _ _ _ _ _ _ ?_⟩
  rw [rLineK] at hK
  refine ⟨by decide, tx, Z.1, 0, _, rfl, rfl, rfl, hN, And.intro (fun c => ?_) (fun c => ?_)⟩
  rotate_left
  · have c : seeB tx Z.1 (kb 0) = true := bI_n0.mp c
    rw [if_pos c] at hK
    exact ⟨tx, Z, rfl, rfl, hz, rLawK_mono he (fun b Z' _ hk => ⟨bI_nar b, hk⟩) hK⟩
  replace c : seeB tx Z.1 (kb 0) = false := bI_0.mp c
  rw [if_neg (by rw [c]; decide)] at hK
  refine And.intro (fun c2 => ?_) (fun c2 => ?_)
  rotate_left
  · have c2 : ¬ Z.1.2.2.2.2.1 = 0 := c2
    rw [if_neg c2] at hK
    exact ⟨tx, Z.1, _, rfl, rfl, rfl, hK⟩
  have c2 : Z.1.2.2.2.2.1 = 0 := c2
  rw [if_pos c2, rLineB] at hK
  refine ⟨by decide, tx, Z.1, 1, _, rfl, rfl, rfl, hN, And.intro (fun c => ?_) (fun c => ?_)⟩
  rotate_left
  · have c : seeB tx Z.1 (kb 1) = true := bI_n0.mp c
    rw [if_pos c] at hK
    exact ⟨tx, Z, 0, rfl, rfl, hz, by decide, rNameK_mono he (fun b Z' _ hk => ⟨bI_nar b, hk⟩) hK⟩
  replace c : seeB tx Z.1 (kb 1) = false := bI_0.mp c
  rw [if_neg (by rw [c]; decide)] at hK
  refine ⟨by decide, tx, Z.1, 2, _, rfl, rfl, rfl, hN, And.intro (fun c => ?_) (fun c => ?_)⟩
  rotate_left
  · have c : seeB tx Z.1 (kb 2) = true := bI_n0.mp c
    rw [if_pos c] at hK
    exact ⟨tx, Z, 1, rfl, rfl, hz, by decide, rNameK_mono he (fun b Z' _ hk => ⟨bI_nar b, hk⟩) hK⟩
  replace c : seeB tx Z.1 (kb 2) = false := bI_0.mp c
  rw [if_neg (by rw [c]; decide)] at hK
  refine ⟨by decide, tx, Z.1, 3, _, rfl, rfl, rfl, hN, And.intro (fun c => ?_) (fun c => ?_)⟩
  rotate_left
  · have c : seeB tx Z.1 (kb 3) = true := bI_n0.mp c
    rw [if_pos c] at hK
    exact ⟨tx, Z, 2, rfl, rfl, hz, by decide, rNameK_mono he (fun b Z' _ hk => ⟨bI_nar b, hk⟩) hK⟩
  replace c : seeB tx Z.1 (kb 3) = false := bI_0.mp c
  rw [if_neg (by rw [c]; decide)] at hK
  refine ⟨by decide, tx, Z.1, 4, _, rfl, rfl, rfl, hN, And.intro (fun c => ?_) (fun c => ?_)⟩
  rotate_left
  · have c : seeB tx Z.1 (kb 4) = true := bI_n0.mp c
    rw [if_pos c] at hK
    exact ⟨tx, Z, 3, rfl, rfl, hz, by decide, rNameK_mono he (fun b Z' _ hk => ⟨bI_nar b, hk⟩) hK⟩
  replace c : seeB tx Z.1 (kb 4) = false := bI_0.mp c
  rw [if_neg (by rw [c]; decide)] at hK
  refine ⟨by decide, tx, Z.1, 5, _, rfl, rfl, rfl, hN, And.intro (fun c => ?_) (fun c => ?_)⟩
  rotate_left
  · have c : seeB tx Z.1 (kb 5) = true := bI_n0.mp c
    rw [if_pos c] at hK
    exact ⟨tx, Z, rfl, rfl, hz, rRoadK_mono he (fun b Z' _ hk => ⟨bI_nar b, hk⟩) hK⟩
  replace c : seeB tx Z.1 (kb 5) = false := bI_0.mp c
  rw [if_neg (by rw [c]; decide)] at hK
  refine ⟨by decide, tx, Z.1, 6, _, rfl, rfl, rfl, hN, And.intro (fun c => ?_) (fun c => ?_)⟩
  rotate_left
  · have c : seeB tx Z.1 (kb 6) = true := bI_n0.mp c
    rw [if_pos c] at hK
    exact ⟨tx, Z, rfl, rfl, hz, rGiftK_mono he (fun b Z' _ hk => ⟨bI_nar b, hk⟩) hK⟩
  replace c : seeB tx Z.1 (kb 6) = false := bI_0.mp c
  rw [if_neg (by rw [c]; decide)] at hK
  exact ⟨tx, Z.1, _, rfl, rfl, rfl, hK⟩
def rReadL {α : Type} (tx : Nat → Int32) (k : Bool → ZT → α) : Nat → ZT → α
  | 0, Z => k false (zN Z (failF Z.1 1))
  | n + 1, Z => rLineK tx Z (fun b Z' => if b = true then (if Z'.1.2.2.2.2.2.1 = 0 then k true Z' else if Z'.1.2.2.2.2.2.1 = 3 then rReadL tx k n (zN Z' (stepF tx Z'.1)) else k false (zN Z' (failF Z'.1 1))) else k false Z')
def rStart (N : NT) (n : Nat) (al : Bool) (kn : Int32) : NT := (0, -1, n, kn, bI al, N.2.2.2.2.2.1, N.2.2.2.2.2.2.1, 0, N.2.2.2.2.2.2.2.2)
def rReadK {α : Type} (tx : Nat → Int32) (Z : ZT) (n : Nat) (al : Bool) (kn : Int32) (k : Bool → ZT → α) : α :=
  rReadL tx k (n + 1) (zN Z (stepF tx (rStart Z.1 n al kn)))
def tX7_read : List q_I := [(0, .aload_n 0, 1, 0, 0), (1, .iload_n 1, 1, 0, 0), (2, .aload_n 0, 1, 0, 0), (3, .getfield 39, 3, 0, 0), (6, .arraylength, 1, 0, 0), (7, .invokestatic 47, 3, 0, 0), (10, .putfield 53, 3, 0, 0), (13, .aload_n 0, 1, 0, 0), (14, .aload_n 2, 1, 0, 0), (15, .putfield 43, 3, 0, 0), (18, .aload_n 0, 1, 0, 0), (19, .iload_n 3, 1, 0, 0), (20, .putfield 57, 3, 0, 0), (23, .aload_n 0, 1, 0, 0), (24, .iload 4, 2, 0, 0), (26, .putfield 61, 3, 0, 0), (29, .aload_n 0, 1, 0, 0), (30, .iconst 0, 1, 0, 0), (31, .putfield 64, 3, 0, 0), (34, .aload_n 0, 1, 0, 0), (35, .iconst (-1), 1, (-1), 0), (36, .putfield 67, 3, 0, 0), (39, .aload_n 0, 1, 0, 0), (40, .iconst 0, 1, 0, 0), (41, .putfield 70, 3, 0, 0), (44, .aload_n 0, 1, 0, 0), (45, .invokevirtual 73, 3, 0, 0), (48, .iconst 0, 1, 0, 0), (49, .istore 5, 2, 0, 0), (51, .iload 5, 2, 0, 0), (53, .aload_n 0, 1, 0, 0), (54, .getfield 53, 3, 0, 0), (57, .if_icmp .gt 45, 3, 0, 102), (60, .aload_n 0, 1, 0, 0), (61, .invokevirtual 76, 3, 0, 0), (64, .ifCond .ne 5, 3, 0, 69), (67, .iconst 0, 1, 0, 0), (68, .ireturn, 1, 0, 0), (69, .aload_n 0, 1, 0, 0), (70, .getfield 80, 3, 0, 0), (73, .ifCond .ne 5, 3, 0, 78), (76, .iconst 1, 1, 1, 0), (77, .ireturn, 1, 0, 0), (78, .aload_n 0, 1, 0, 0), (79, .getfield 80, 3, 0, 0), (82, .iconst 3, 1, 3, 0), (83, .if_icmp .eq 9, 3, 0, 92), (86, .aload_n 0, 1, 0, 0), (87, .iconst 1, 1, 1, 0), (88, .invokevirtual 83, 3, 0, 0), (91, .ireturn, 1, 0, 0), (92, .aload_n 0, 1, 0, 0), (93, .invokevirtual 73, 3, 0, 0), (96, .iinc 5 1, 3, 1, 0), (99, .goto (-48), 3, 0, 51), (102, .aload_n 0, 1, 0, 0), (103, .iconst 1, 1, 1, 0), (104, .invokevirtual 83, 3, 0, 0), (107, .ireturn, 1, 0, 0)]
theorem tX7_read_ok : (tX7_read.all (q_okI cX7_read)) = true := by decide +kernel

abbrev fdX7_read : List (Nat ⊕ (Nat × Nat)) := [.inl 0, .inr (0, 2), .inr (0, 3), .inl 2, .inr (3, 0), .inr (3, 1), .inr (3, 2), .inr (3, 3), .inr (3, 5), .inr (8, 0), .inr (8, 1), .inr (8, 2), .inr (8, 3), .inr (8, 4), .inr (8, 5), .inr (8, 6), .inr (3, 6), .inr (16, 0), .inr (16, 1), .inr (16, 2), .inr (16, 3), .inr (16, 4), .inr (16, 5), .inr (16, 6), .inr (3, 7), .inr (24, 0), .inr (24, 1), .inr (24, 2), .inr (24, 3), .inr (24, 4), .inr (24, 5), .inr (24, 6), .inr (24, 7)]
def spX7_read : q_P := fun a w K => ∃ (tx : Nat → Int32) (Z : ZT) (v : Value) (n : Nat) (al : Bool) (kn : Int32), w = readW 0 v tx Z.1 ++ bookW 3 Z.2.1 Z.2.2.1 Z.2.2.2.1 Z.2.2.2.2 ∧ a = [.ref 0, .int (nI n), .ref 3, .int (bI al), .int kn] ∧ n ≤ 700 ∧ Z.2.1.2.2.2.2 ≤ 25 ∧ rOk Z.2.2.1 ∧ L_n Z.2.2.2.1 ≤ 24 ∧ gOk Z.2.2.2.2 ∧ rReadK tx Z n al kn (fun b Z' => K (.inl (some (.int (bI b)))) (zW tx Z'))
abbrev csX7_read : q_S := (5, 7, 9, 6, 0, 0, fdX7_read, spX7_read)
theorem coX7_76 (l : Launch) : q_CO l RX7 76 csX7_readLine := ⟨yX7_readLine, cX7_readLine, (some .boolean), 0, ⟨by decide +kernel, by decide +kernel, by decide +kernel⟩, q_G_i 6 (by decide +kernel) rfl, Or.inl ⟨by decide, rfl, rfl, q_G_i 584 (by decide +kernel) rfl, q_G_i 586 (by decide +kernel) rfl, q_G_s (n := 13) 5 (by decide +kernel), Or.inl ⟨q_G_i 587 (by decide +kernel) rfl, ctX7_readLine l⟩⟩⟩
def EX7_read : q_E := (tX7_read, [(51, [0, 5])], 6, flX7, [(73, csX7_step), (76, csX7_readLine), (83, csX7_fail)], [], [], [], [], [(47, 2)], 9, 0, 0, (some .boolean), [], [], 0, 0)
theorem okX7_read (l : Launch) : q_Eok l RX7 cX7_read EX7_read := ⟨tX7_read_ok, flX7_ok, List.forall_mem_cons.mpr ⟨(coX7_73 l), List.forall_mem_cons.mpr ⟨(coX7_76 l), List.forall_mem_cons.mpr ⟨(coX7_83 l), q_nil⟩⟩⟩, q_nil, q_nil, q_nil, List.forall_mem_cons.mpr ⟨Or.inr (Or.inr ⟨rfl, q_G_i 569 (by decide +kernel) rfl⟩), q_nil⟩, q_nil, (fun h => absurd h (by decide))⟩
set_option maxRecDepth 100000 in
set_option maxHeartbeats 4000000 in
theorem ctX7_read (l : Launch) : q_CT l yX7_read (.code yX7_read cX7_read 6 (some .boolean)) 9 0 0 spX7_read := by
  refine q_ct_of EX7_read (by decide +kernel) (okX7_read l) rfl rfl rfl rfl rfl q_nil (fun ci h => by cases h) rfl ?_
  intro a w K h
  obtain ⟨tx, Z, v, n, al, kn, rfl, rfl, hn, hB, hR, hL, hG, hK⟩ := h
  refine ⟨Nat.le_of_ble_eq_true rfl, fun C hC => hC _ _ _ _ _ _ ?_⟩
  have loop : ∀ m i Z, i + m = n + 1 → zE n Z → rReadL tx (fun b Z' => K (.inl (some (.int (bI b)))) (zW tx Z')) m Z → C 51 [(0, .ref 0), (5, .int (nI i))] [] (zW tx Z) 0 0 := by
    intro m
    induction m with
    | zero =>
      intro i Z hi hz hK
      have h2 := hz.1.2
      refine hC _ _ _ _ _ _ ?_
      refine And.intro (fun _ => ?_) (fun c1 => absurd (by show nI Z.1.2.2.1 < nI i; rw [h2]; exact nI_lt (by omega) (by omega)) c1)
      exact ⟨tx, Z.1, _, rfl, rfl, rfl, hK⟩
    | succ m ih =>
      intro i Z hi hz hK
      have h2 := hz.1.2
      rw [rReadL] at hK
      refine hC _ _ _ _ _ _ ?_
      refine And.intro (fun c1 => absurd (show nI Z.1.2.2.1 < nI i from c1) (by rw [h2]; exact nI_nlt (by omega) (by omega))) (fun _ => ?_)
      refine ⟨tx, Z, rfl, rfl, hz.ok, rLineK_mono hz (fun b Z' hz' hk => ?_) hK⟩
      cases b with
      | false => exact And.intro (fun z => absurd rfl z) (fun _ => ⟨rfl, hk⟩)
      | true =>
        rw [if_pos rfl] at hk
        refine And.intro (fun _ => And.intro (fun c2 => ?_) (fun c2 => ?_)) (fun z => absurd z (by decide))
        · have c2 : ¬ Z'.1.2.2.2.2.2.1 = 0 := c2
          rw [if_neg c2] at hk
          refine And.intro (fun c3 => ?_) (fun c3 => ?_)
          · have c3 : Z'.1.2.2.2.2.2.1 = 3 := c3
            rw [if_pos c3] at hk
            have h9 := ih (i + 1) (zN Z' (stepF tx Z'.1)) (by omega) ⟨nE_step hz'.1, hz'.2⟩ hk
            rw [← nI_1 i] at h9
            exact ⟨tx, Z'.1, rfl, rfl, hz'.1.1.s, h9⟩
          · have c3 : ¬ Z'.1.2.2.2.2.2.1 = 3 := c3
            rw [if_neg c3] at hk
            exact ⟨tx, Z'.1, _, rfl, rfl, rfl, hk⟩
        · have c2 : Z'.1.2.2.2.2.2.1 = 0 := c2
          rw [if_pos c2] at hk
          exact ⟨rfl, hk⟩
  have hmn : mnI (nI n) (Int32.ofNat 700) = nI n := by
    have : nI n ≤ Int32.ofNat 700 := nI_le (a := n) (b := 700) hn (by omega)
    unfold mnI
    rw [if_neg (Int32.not_lt.mpr this)]
  have hs0 : nOk (nUp (rStart Z.1 n al kn)) := ⟨hn, Nat.le_refl _, Nat.zero_le _⟩
  have hz1 : zE n (zN Z (stepF tx (rStart Z.1 n al kn))) := ⟨⟨(stepF_ok0 hs0).1, (stepF_ok0 hs0).2⟩, hB, hR, hL, hG⟩
  have h9 := loop (n + 1) 0 _ (by omega) hz1 hK
  refine ⟨Or.inl rfl, bI_nar al, tx, rStart Z.1 n al kn, (by rw [hmn]; rfl), rfl, hs0, h9⟩
