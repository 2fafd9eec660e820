theorem pcN_add {P : PT} {x : Int32} (p : Nat) : pcN (peopleAdd P x) p = if p = P.2.2.2.2.2.2 then 0 else pcN P p := by
  unfold pcN peopleAdd
  show (upd P.2.1 P.2.2.2.2.2.2 0 p).toNatClampNeg = _
  rw [upd]
  split
  · rfl
  · rfl
theorem pOk_add {P : PT} {x : Int32} (h : pOk P) (hl : P.2.2.2.2.2.2 < 30) : pOk (peopleAdd P x) := by
  refine ⟨hl, fun p hp => ?_⟩
  have hp : p < P.2.2.2.2.2.2 + 1 := hp
  rw [pcN_add]
  show upd P.2.1 P.2.2.2.2.2.2 0 p = _ ∧ _
  rw [upd]
  split
  · exact ⟨rfl, by omega⟩
  · next c => exact h.2 p (by omega)

def tX11_child : List q_I := [(0, .aload_n 0, 1, 0, 0), (1, .getfield 35, 3, 0, 0), (4, .iload_n 1, 1, 0, 0), (5, .invokevirtual 162, 3, 0, 0), (8, .ifCond .ne 9, 3, 0, 17), (11, .aload_n 0, 1, 0, 0), (12, .iconst 1, 1, 1, 0), (13, .invokevirtual 84, 3, 0, 0), (16, .ireturn, 1, 0, 0), (17, .aload_n 0, 1, 0, 0), (18, .getfield 35, 3, 0, 0), (21, .invokevirtual 155, 3, 0, 0), (24, .ifCond .ne 9, 3, 0, 33), (27, .aload_n 0, 1, 0, 0), (28, .iconst 3, 1, 3, 0), (29, .invokevirtual 84, 3, 0, 0), (32, .ireturn, 1, 0, 0), (33, .aload_n 0, 1, 0, 0), (34, .getfield 35, 3, 0, 0), (37, .aload_n 0, 1, 0, 0), (38, .getfield 35, 3, 0, 0), (41, .getfield 193, 3, 0, 0), (44, .iload_n 1, 1, 0, 0), (45, .iaload, 1, 0, 0), (46, .invokevirtual 159, 3, 0, 0), (49, .istore_n 2, 1, 0, 0), (50, .aload_n 0, 1, 0, 0), (51, .getfield 16, 3, 0, 0), (54, .getfield 254, 3, 0, 0), (57, .aload_n 0, 1, 0, 0), (58, .getfield 35, 3, 0, 0), (61, .iload_n 2, 1, 0, 0), (62, .iload_n 1, 1, 0, 0), (63, .aload_n 0, 1, 0, 0), (64, .getfield 120, 3, 0, 0), (67, .invokevirtual 258, 3, 0, 0), (70, .aload_n 0, 1, 0, 0), (71, .iload_n 2, 1, 0, 0), (72, .invokevirtual 113, 3, 0, 0), (75, .ireturn, 1, 0, 0)]
theorem tX11_child_ok : (tX11_child.all (q_okI cX11_child)) = true := by decide +kernel

abbrev fdX11_child : List (Nat ⊕ (Nat × Nat)) := [.inl 0, .inr (0, 0), .inr (0, 2), .inr (2, 0), .inr (2, 1), .inr (2, 2), .inr (2, 3), .inr (2, 5), .inr (7, 0), .inr (7, 1), .inr (7, 2), .inr (7, 3), .inr (7, 4), .inr (7, 5), .inr (7, 6), .inr (2, 6), .inr (15, 0), .inr (15, 1), .inr (15, 2), .inr (15, 3), .inr (15, 4), .inr (15, 5), .inr (15, 6), .inr (2, 7), .inr (23, 0), .inr (23, 1), .inr (23, 2), .inr (23, 3), .inr (23, 4), .inr (23, 5), .inr (23, 6), .inr (23, 7), .inr (0, 3), .inr (32, 0), .inr (32, 1), .inr (32, 2), .inr (32, 3), .inr (32, 5), .inr (37, 0), .inr (37, 1), .inr (37, 2), .inr (37, 3), .inr (37, 4), .inr (37, 5), .inr (37, 6), .inr (32, 6), .inr (45, 0), .inr (45, 1), .inr (45, 2), .inr (45, 3), .inr (45, 4), .inr (45, 5), .inr (45, 6), .inr (32, 7), .inr (53, 0), .inr (53, 1), .inr (53, 2), .inr (53, 3), .inr (53, 4), .inr (53, 5), .inr (53, 6), .inr (53, 7), .inr (0, 4), .inr (62, 2), .inr (0, 7), .inr (64, 0), .inr (64, 1), .inr (64, 2), .inr (64, 3), .inr (64, 4), .inr (64, 5), .inr (0, 8), .inr (71, 1), .inr (71, 2), .inr (71, 3), .inr (71, 4), .inr (71, 5), .inr (71, 6), .inr (0, 9), .inr (78, 0), .inr (78, 1), .inr (78, 2), .inr (78, 3), .inr (78, 4), .inr (0, 10), .inr (84, 0), .inr (84, 1), .inr (84, 2), .inr (84, 3), .inr (84, 4), .inr (84, 5), .inr (84, 6), .inr (0, 11), .inr (92, 0), .inr (92, 1), .inr (92, 2), .inr (92, 3), .inr (92, 4), .inr (92, 5), .inr (0, 12), .inr (99, 0), .inr (99, 1), .inr (99, 2)]
def spX11_child : q_P := fun a w K => ∃ (tl : Nat) (hb : Bool) (td : Int32) (tr : Int32) (lf : Int32) (tx : Nat → Int32) (rb : Value) (N : NT) (B : BT) (R : RT) (L : LT) (G : GT) (B2 : BT) (R2 : RT) (L2 : LT) (G2 : GT) (P : PT) (W : WT) (S : ST) (Cc : CT) (Y : YT) (D : DT) (p : Int32), w = (stripW 0 tl hb td tr lf tx rb N B R L G B2 R2 L2 G2 P W S Cc Y D) ∧ a = [.ref 0, .int p] ∧ pOk P ∧ gOk G ∧ (if perB P p = true then (if P.2.2.2.2.2.2 < 30 then ∀ f, K (.inl (some (.int (nI P.2.2.2.2.2.2)))) (stripW 0 tl hb td (0) lf tx rb N B R L (gPast G f) B2 R2 L2 G2 (gvR G P.2.2.2.2.2.2 p.toNatClampNeg td G.2.2.2.2.2.2.2.2 (peopleAdd P (P.1 p.toNatClampNeg)) (zf 0 G.2.2.2.2.2.2.2.1 G.2.2.2.2.2.2.2.2)) W S Cc Y D) else K (.inl (some (.int (-1)))) (stripW 0 tl hb td (3) lf tx rb N B R L G B2 R2 L2 G2 P W S Cc Y D)) else K (.inl (some (.int (-1)))) (stripW 0 tl hb td (1) lf tx rb N B R L G B2 R2 L2 G2 P W S Cc Y D))
abbrev csX11_child : q_S := (2, 11, 5, 3, 0, 0, fdX11_child, spX11_child)
theorem coX11_258 (l : Launch) : q_CO l RX11 258 csX2_giveAll := ⟨yX2_giveAll, cX2_giveAll, none, 4, ⟨by decide +kernel, by decide +kernel, by decide +kernel⟩, q_G_i 5 (by decide +kernel) rfl, Or.inl ⟨by decide, rfl, rfl, q_G_i 1011 (by decide +kernel) rfl, q_G_i 1012 (by decide +kernel) rfl, q_G_i 1013 (by decide +kernel) rfl, Or.inl ⟨q_G_i 1014 (by decide +kernel) rfl, ctX2_giveAll l⟩⟩⟩
def EX11_child : q_E := (tX11_child, [], 3, flX11, [(162, csX6_has), (84, csX11_refuse), (155, csX6_hasRoom), (159, csX6_add), (258, csX2_giveAll), (113, csX11_grant)], [], [], [], [], [], 5, 0, 0, (some .int), [], [], 0, 0)
theorem okX11_child (l : Launch) : q_Eok l RX11 cX11_child EX11_child := ⟨tX11_child_ok, flX11_ok, List.forall_mem_cons.mpr ⟨(coX11_162 l), List.forall_mem_cons.mpr ⟨(coX11_84 l), List.forall_mem_cons.mpr ⟨(coX11_155 l), List.forall_mem_cons.mpr ⟨(coX11_159 l), List.forall_mem_cons.mpr ⟨(coX11_258 l), List.forall_mem_cons.mpr ⟨(coX11_113 l), q_nil⟩⟩⟩⟩⟩⟩, q_nil, q_nil, q_nil, q_nil, q_nil, (fun h => absurd h (by decide))⟩
set_option maxRecDepth 100000 in
set_option maxHeartbeats 4000000 in
theorem ctX11_child (l : Launch) : q_CT l yX11_child (.code yX11_child cX11_child 3 (some .int)) 5 0 0 spX11_child := by
  refine q_ct_of EX11_child (by decide +kernel) (okX11_child l) rfl rfl rfl rfl rfl q_nil (fun ci h => by cases h) rfl ?_
  intro a w K h
  obtain ⟨tl, hb, td, tr, lf, tx, rb, N, B, R, L, G, B2, R2, L2, G2, P, W, S, Cc, Y, D, p, rfl, rfl, ho, hg, hK⟩ := h
  refine ⟨Nat.le_of_ble_eq_true rfl, fun C hC => hC _ _ _ _ _ _ ?_⟩
  refine ⟨P, p, rfl, rfl, And.intro (fun c => ?_) (fun c => ?_)⟩
  · have c : perB P p = true := bI_n0.mp c
    rw [if_pos c] at hK
    refine ⟨P, rfl, rfl, ho.1, And.intro (fun c2 => ?_) (fun c2 => ?_)⟩
    · have c2 := of_decide_eq_true (bI_n0.mp c2)
      rw [if_pos c2] at hK
      obtain ⟨p, rfl, hp, hcp⟩ := perI ho c
      rw [hcp] at hK
      refine ⟨vp_in_nI (by omega) (by omega), P, _, rfl, rfl, c2, G, peopleAdd P (P.1 (nI p).toNatClampNeg), P.2.2.2.2.2.2, p, td, rfl, rfl, hg, pOk_add ho c2, Nat.lt_succ_self _, Nat.lt_succ_of_lt hp, fun f => ?_⟩
      rw [hcp]
      exact ⟨_, _, _, _, _, _, rfl, rfl, hK f⟩
    · rw [if_neg (of_decide_eq_false (bI_0.mp c2))] at hK
      exact ⟨_, _, _, _, _, _, rfl, rfl, hK⟩
  · have c : perB P p = false := bI_0.mp c
    rw [c] at hK
    exact ⟨_, _, _, _, _, _, rfl, rfl, hK⟩
def matB (m : Int32) : Bool := decide (0 ≤ m ∧ m ≤ 9)
def valB (v : Int32) : Bool := decide (0 ≤ v ∧ v ≤ 99)
def tX11_judge : List q_I := [(0, .aload_n 0, 1, 0, 0), (1, .iload_n 1, 1, 0, 0), (2, .iload_n 2, 1, 0, 0), (3, .invokevirtual 149, 3, 0, 0), (6, .ifCond .eq 14, 3, 0, 20), (9, .aload_n 0, 1, 0, 0), (10, .getfield 35, 3, 0, 0), (13, .iload_n 3, 1, 0, 0), (14, .invokevirtual 162, 3, 0, 0), (17, .ifCond .ne 9, 3, 0, 26), (20, .aload_n 0, 1, 0, 0), (21, .iconst 1, 1, 1, 0), (22, .invokevirtual 84, 3, 0, 0), (25, .ireturn, 1, 0, 0), (26, .iload 4, 2, 0, 0), (28, .invokestatic 264, 3, 0, 0), (31, .ifCond .eq 15, 3, 0, 46), (34, .iload 5, 2, 0, 0), (36, .ifCond .lt 10, 3, 0, 46), (39, .iload 5, 2, 0, 0), (41, .bipush 99, 2, 99, 0), (43, .if_icmp .le 9, 3, 0, 52), (46, .aload_n 0, 1, 0, 0), (47, .iconst 2, 1, 2, 0), (48, .invokevirtual 84, 3, 0, 0), (51, .ireturn, 1, 0, 0), (52, .aload_n 0, 1, 0, 0), (53, .getfield 58, 3, 0, 0), (56, .getfield 125, 3, 0, 0), (59, .bipush 20, 2, 20, 0), (61, .if_icmp .lt 9, 3, 0, 70), (64, .aload_n 0, 1, 0, 0), (65, .iconst 3, 1, 3, 0), (66, .invokevirtual 84, 3, 0, 0), (69, .ireturn, 1, 0, 0), (70, .aload_n 0, 1, 0, 0), (71, .aload_n 0, 1, 0, 0), (72, .getfield 58, 3, 0, 0), (75, .iload_n 1, 1, 0, 0), (76, .iload_n 2, 1, 0, 0), (77, .iload_n 3, 1, 0, 0), (78, .iload 4, 2, 0, 0), (80, .iload 5, 2, 0, 0), (82, .aload_n 0, 1, 0, 0), (83, .getfield 120, 3, 0, 0), (86, .invokevirtual 267, 3, 0, 0), (89, .invokevirtual 113, 3, 0, 0), (92, .ireturn, 1, 0, 0)]
theorem tX11_judge_ok : (tX11_judge.all (q_okI cX11_judge)) = true := by decide +kernel

abbrev fdX11_judge : List (Nat ⊕ (Nat × Nat)) := [.inl 0, .inr (0, 0), .inr (0, 2), .inr (2, 0), .inr (2, 1), .inr (2, 2), .inr (2, 3), .inr (2, 5), .inr (7, 0), .inr (7, 1), .inr (7, 2), .inr (7, 3), .inr (7, 4), .inr (7, 5), .inr (7, 6), .inr (2, 6), .inr (15, 0), .inr (15, 1), .inr (15, 2), .inr (15, 3), .inr (15, 4), .inr (15, 5), .inr (15, 6), .inr (2, 7), .inr (23, 0), .inr (23, 1), .inr (23, 2), .inr (23, 3), .inr (23, 4), .inr (23, 5), .inr (23, 6), .inr (23, 7), .inr (0, 3), .inr (32, 0), .inr (32, 1), .inr (32, 2), .inr (32, 3), .inr (32, 5), .inr (37, 0), .inr (37, 1), .inr (37, 2), .inr (37, 3), .inr (37, 4), .inr (37, 5), .inr (37, 6), .inr (32, 6), .inr (45, 0), .inr (45, 1), .inr (45, 2), .inr (45, 3), .inr (45, 4), .inr (45, 5), .inr (45, 6), .inr (32, 7), .inr (53, 0), .inr (53, 1), .inr (53, 2), .inr (53, 3), .inr (53, 4), .inr (53, 5), .inr (53, 6), .inr (53, 7), .inr (0, 4), .inr (62, 2), .inr (0, 7), .inr (64, 0), .inr (64, 1), .inr (64, 2), .inr (64, 3), .inr (64, 4), .inr (64, 5), .inr (0, 8), .inr (71, 1), .inr (71, 2), .inr (71, 3), .inr (71, 4), .inr (71, 5), .inr (71, 6), .inr (0, 9), .inr (78, 0), .inr (78, 1), .inr (78, 2), .inr (78, 3), .inr (78, 4), .inr (0, 10), .inr (84, 0), .inr (84, 1), .inr (84, 2), .inr (84, 3), .inr (84, 4), .inr (84, 5), .inr (84, 6), .inr (0, 11), .inr (92, 0), .inr (92, 1), .inr (92, 2), .inr (92, 3), .inr (92, 4), .inr (92, 5), .inr (0, 12), .inr (99, 0), .inr (99, 1), .inr (99, 2)]
def spX11_judge : q_P := fun a w K => ∃ (tl : Nat) (hb : Bool) (td : Int32) (tr : Int32) (lf : Int32) (tx : Nat → Int32) (rb : Value) (N : NT) (B : BT) (R : RT) (L : LT) (G : GT) (B2 : BT) (R2 : RT) (L2 : LT) (G2 : GT) (P : PT) (W : WT) (S : ST) (Cc : CT) (Y : YT) (D : DT) (k o p m v : Int32), w = (stripW 0 tl hb td tr lf tx rb N B R L G B2 R2 L2 G2 P W S Cc Y D) ∧ a = [.ref 0, .int k, .int o, .int p, .int m, .int v] ∧ Cc.2.2.2.2.2.2.2 ≤ 20 ∧ (if (sortB B.1 k o && perB P p) = true then (if (matB m && valB v) = true then (if Cc.2.2.2.2.2.2.2 < 20 then K (.inl (some (.int (nI Cc.2.2.2.2.2.2.2)))) (stripW 0 tl hb td (0) lf tx rb N B R L G B2 R2 L2 G2 P W S (courtAdd Cc k o p m v td) Y D) else K (.inl (some (.int (-1)))) (stripW 0 tl hb td (3) lf tx rb N B R L G B2 R2 L2 G2 P W S Cc Y D)) else K (.inl (some (.int (-1)))) (stripW 0 tl hb td (2) lf tx rb N B R L G B2 R2 L2 G2 P W S Cc Y D)) else K (.inl (some (.int (-1)))) (stripW 0 tl hb td (1) lf tx rb N B R L G B2 R2 L2 G2 P W S Cc Y D))
abbrev csX11_judge : q_S := (6, 11, 2, 6, 0, 0, fdX11_judge, spX11_judge)
theorem coX11_264 (l : Launch) : q_CO l RX11 264 csX1_isMatter := ⟨yX1_isMatter, cX1_isMatter, (some .boolean), 1, ⟨by decide +kernel, by decide +kernel, by decide +kernel⟩, q_G_i 14 (by decide +kernel) rfl, Or.inr (Or.inr (Or.inr ⟨rfl, rfl, q_G_i 1039 (by decide +kernel) rfl, q_G_i 1040 (by decide +kernel) rfl, Or.inl ⟨q_G_i 1041 (by decide +kernel) rfl, ctX1_isMatter l⟩⟩))⟩
theorem coX11_267 (l : Launch) : q_CO l RX11 267 csX1_add := ⟨yX1_add, cX1_add, (some .int), 6, ⟨by decide +kernel, by decide +kernel, by decide +kernel⟩, q_G_i 14 (by decide +kernel) rfl, Or.inl ⟨by decide, rfl, rfl, q_G_i 1042 (by decide +kernel) rfl, q_G_i 1043 (by decide +kernel) rfl, q_G_i 1044 (by decide +kernel) rfl, Or.inl ⟨q_G_i 1045 (by decide +kernel) rfl, ctX1_add l⟩⟩⟩
def EX11_judge : q_E := (tX11_judge, [], 6, flX11, [(149, csX11_isPaperSort), (162, csX6_has), (84, csX11_refuse), (264, csX1_isMatter), (267, csX1_add), (113, csX11_grant)], [], [], [], [], [], 2, 0, 0, (some .int), [], [], 0, 0)
theorem okX11_judge (l : Launch) : q_Eok l RX11 cX11_judge EX11_judge := ⟨tX11_judge_ok, flX11_ok, List.forall_mem_cons.mpr ⟨(coX11_149 l), List.forall_mem_cons.mpr ⟨(coX11_162 l), List.forall_mem_cons.mpr ⟨(coX11_84 l), List.forall_mem_cons.mpr ⟨(coX11_264 l), List.forall_mem_cons.mpr ⟨(coX11_267 l), List.forall_mem_cons.mpr ⟨(coX11_113 l), q_nil⟩⟩⟩⟩⟩⟩, q_nil, q_nil, q_nil, q_nil, q_nil, (fun h => absurd h (by decide))⟩
set_option maxRecDepth 100000 in
set_option maxHeartbeats 4000000 in
theorem ctX11_judge (l : Launch) : q_CT l yX11_judge (.code yX11_judge cX11_judge 6 (some .int)) 2 0 0 spX11_judge := by
  refine q_ct_of EX11_judge (by decide +kernel) (okX11_judge l) rfl rfl rfl rfl rfl q_nil (fun ci h => by cases h) rfl ?_
  intro a w K h
  obtain ⟨tl, hb, td, tr, lf, tx, rb, N, B, R, L, G, B2, R2, L2, G2, P, W, S, Cc, Y, D, k, o, p, m, v, rfl, rfl, hC0, hK⟩ := h
  refine ⟨Nat.le_of_ble_eq_true rfl, fun C hC => hC _ _ _ _ _ _ ?_⟩
  refine ⟨_, _, _, _, _, _, k, o, B.1, rfl, rfl, And.intro (fun c => ?_) (fun c => ?_)⟩
  · rw [bI_0.mp c] at hK
    exact ⟨_, _, _, _, _, _, rfl, rfl, hK⟩
  · rw [bI_n0.mp c, Bool.true_and] at hK
    refine ⟨P, p, rfl, rfl, And.intro (fun c => ?_) (fun c => ?_)⟩
    · have c : perB P p = true := bI_n0.mp c
      rw [if_pos c] at hK
      refine ⟨m, rfl, rfl, And.intro (fun c2 => ?_) (fun c2 => ?_)⟩
      · have c2 : matB m = false := bI_0.mp c2
        rw [c2] at hK
        exact ⟨_, _, _, _, _, _, rfl, rfl, hK⟩
      · have c2 : matB m = true := bI_n0.mp c2
        rw [c2, Bool.true_and] at hK
        refine And.intro (fun c3 => ?_) (fun c3 => And.intro (fun c4 => ?_) (fun c4 => ?_))
        · rw [show valB v = false from decide_eq_false (fun z => absurd c3 (Int32.not_lt.mpr z.1))] at hK
          exact ⟨_, _, _, _, _, _, rfl, rfl, hK⟩
        · rw [show valB v = true from decide_eq_true ⟨Int32.not_lt.mp c3, c4⟩] at hK
          refine And.intro (fun c5 => ?_) (fun c5 => ?_)
          · have h9 : Cc.2.2.2.2.2.2.2 < 20 := by
              rcases Nat.lt_or_ge Cc.2.2.2.2.2.2.2 20 with z | z
              · exact z
              · exact absurd c5 (Int32.not_lt.mpr (nI_le (a := 20) z (by omega)))
            rw [if_pos h9] at hK
            exact ⟨Cc, k, o, p, m, v, td, rfl, rfl, h9, _, _, _, _, _, _, rfl, rfl, hK⟩
          · rw [if_neg (c := Cc.2.2.2.2.2.2.2 < 20) (fun z => c5 (nI_lt (b := 20) z (by omega)))] at hK
            exact ⟨_, _, _, _, _, _, rfl, rfl, hK⟩
        · rw [show valB v = false from decide_eq_false (fun z => c4 z.2)] at hK
          exact ⟨_, _, _, _, _, _, rfl, rfl, hK⟩
    · have c : perB P p = false := bI_0.mp c
      rw [c] at hK
      exact ⟨_, _, _, _, _, _, rfl, rfl, hK⟩
def tX11_binds : List q_I := [(0, .aload_n 0, 1, 0, 0), (1, .getfield 35, 3, 0, 0), (4, .iload_n 1, 1, 0, 0), (5, .invokevirtual 162, 3, 0, 0), (8, .ifCond .eq 15, 3, 0, 23), (11, .aload_n 0, 1, 0, 0), (12, .getfield 16, 3, 0, 0), (15, .iconst 1, 1, 1, 0), (16, .iload_n 3, 1, 0, 0), (17, .invokevirtual 145, 3, 0, 0), (20, .ifCond .ne 9, 3, 0, 29), (23, .aload_n 0, 1, 0, 0), (24, .iconst 1, 1, 1, 0), (25, .invokevirtual 84, 3, 0, 0), (28, .ireturn, 1, 0, 0), (29, .iload_n 2, 1, 0, 0), (30, .invokestatic 264, 3, 0, 0), (33, .ifCond .eq 11, 3, 0, 44), (36, .iload 4, 2, 0, 0), (38, .invokestatic 152, 3, 0, 0), (41, .ifCond .ne 9, 3, 0, 50), (44, .aload_n 0, 1, 0, 0), (45, .iconst 2, 1, 2, 0), (46, .invokevirtual 84, 3, 0, 0), (49, .ireturn, 1, 0, 0), (50, .aload_n 0, 1, 0, 0), (51, .aload_n 0, 1, 0, 0), (52, .getfield 58, 3, 0, 0), (55, .iload_n 1, 1, 0, 0), (56, .iload_n 2, 1, 0, 0), (57, .iload_n 3, 1, 0, 0), (58, .iload 4, 2, 0, 0), (60, .aload_n 0, 1, 0, 0), (61, .getfield 16, 3, 0, 0), (64, .getfield 104, 3, 0, 0), (67, .invokevirtual 270, 3, 0, 0), (70, .invokevirtual 113, 3, 0, 0), (73, .ireturn, 1, 0, 0)]
theorem tX11_binds_ok : (tX11_binds.all (q_okI cX11_binds)) = true := by decide +kernel

abbrev fdX11_binds : List (Nat ⊕ (Nat × Nat)) := [.inl 0, .inr (0, 0), .inr (0, 2), .inr (2, 0), .inr (2, 1), .inr (2, 2), .inr (2, 3), .inr (2, 5), .inr (7, 0), .inr (7, 1), .inr (7, 2), .inr (7, 3), .inr (7, 4), .inr (7, 5), .inr (7, 6), .inr (2, 6), .inr (15, 0), .inr (15, 1), .inr (15, 2), .inr (15, 3), .inr (15, 4), .inr (15, 5), .inr (15, 6), .inr (2, 7), .inr (23, 0), .inr (23, 1), .inr (23, 2), .inr (23, 3), .inr (23, 4), .inr (23, 5), .inr (23, 6), .inr (23, 7), .inr (0, 3), .inr (32, 0), .inr (32, 1), .inr (32, 2), .inr (32, 3), .inr (32, 5), .inr (37, 0), .inr (37, 1), .inr (37, 2), .inr (37, 3), .inr (37, 4), .inr (37, 5), .inr (37, 6), .inr (32, 6), .inr (45, 0), .inr (45, 1), .inr (45, 2), .inr (45, 3), .inr (45, 4), .inr (45, 5), .inr (45, 6), .inr (32, 7), .inr (53, 0), .inr (53, 1), .inr (53, 2), .inr (53, 3), .inr (53, 4), .inr (53, 5), .inr (53, 6), .inr (53, 7), .inr (0, 4), .inr (62, 2), .inr (0, 7), .inr (64, 0), .inr (64, 1), .inr (64, 2), .inr (64, 3), .inr (64, 4), .inr (64, 5), .inr (0, 8), .inr (71, 1), .inr (71, 2), .inr (71, 3), .inr (71, 4), .inr (71, 5), .inr (71, 6), .inr (0, 9), .inr (78, 0), .inr (78, 1), .inr (78, 2), .inr (78, 3), .inr (78, 4), .inr (0, 10), .inr (84, 0), .inr (84, 1), .inr (84, 2), .inr (84, 3), .inr (84, 4), .inr (84, 5), .inr (84, 6), .inr (0, 11), .inr (92, 0), .inr (92, 1), .inr (92, 2), .inr (92, 3), .inr (92, 4), .inr (92, 5), .inr (0, 12), .inr (99, 0), .inr (99, 1), .inr (99, 2)]
def spX11_binds : q_P := fun a w K => ∃ (tl : Nat) (hb : Bool) (td : Int32) (tr : Int32) (lf : Int32) (tx : Nat → Int32) (rb : Value) (N : NT) (B : BT) (R : RT) (L : LT) (G : GT) (B2 : BT) (R2 : RT) (L2 : LT) (G2 : GT) (P : PT) (W : WT) (S : ST) (Cc : CT) (Y : YT) (D : DT) (p m ld d : Int32), w = (stripW 0 tl hb td tr lf tx rb N B R L G B2 R2 L2 G2 P W S Cc Y D) ∧ a = [.ref 0, .int p, .int m, .int ld, .int d] ∧ Cc.2.2.2.2.2.2.2 ≤ 20 ∧ L_n L ≤ 24 ∧ (if (perB P p && toldB B.1 1 ld) = true then (if (matB m && dayB d) = true then K (.inl (some (.int (bndV Cc L p m ld d)))) (stripW 0 tl hb td (0) lf tx rb N B R L G B2 R2 L2 G2 P W S Cc Y D) else K (.inl (some (.int (-1)))) (stripW 0 tl hb td (2) lf tx rb N B R L G B2 R2 L2 G2 P W S Cc Y D)) else K (.inl (some (.int (-1)))) (stripW 0 tl hb td (1) lf tx rb N B R L G B2 R2 L2 G2 P W S Cc Y D))
abbrev csX11_binds : q_S := (5, 11, 3, 5, 0, 0, fdX11_binds, spX11_binds)
theorem coX11_270 (l : Launch) : q_CO l RX11 270 csX1_bindingValue := ⟨yX1_bindingValue, cX1_bindingValue, (some .int), 5, ⟨by decide +kernel, by decide +kernel, by decide +kernel⟩, q_G_i 14 (by decide +kernel) rfl, Or.inl ⟨by decide, rfl, rfl, q_G_i 1050 (by decide +kernel) rfl, q_G_i 1051 (by decide +kernel) rfl, q_G_i 1052 (by decide +kernel) rfl, Or.inl ⟨q_G_i 1053 (by decide +kernel) rfl, ctX1_bindingValue l⟩⟩⟩
def EX11_binds : q_E := (tX11_binds, [], 5, flX11, [(162, csX6_has), (145, csX0_has), (84, csX11_refuse), (264, csX1_isMatter), (152, csX11_isDay), (270, csX1_bindingValue), (113, csX11_grant)], [], [], [], [], [], 3, 0, 0, (some .int), [], [], 0, 0)
theorem okX11_binds (l : Launch) : q_Eok l RX11 cX11_binds EX11_binds := ⟨tX11_binds_ok, flX11_ok, List.forall_mem_cons.mpr ⟨(coX11_162 l), List.forall_mem_cons.mpr ⟨(coX11_145 l), List.forall_mem_cons.mpr ⟨(coX11_84 l), List.forall_mem_cons.mpr ⟨(coX11_264 l), List.forall_mem_cons.mpr ⟨(coX11_152 l), List.forall_mem_cons.mpr ⟨(coX11_270 l), List.forall_mem_cons.mpr ⟨(coX11_113 l), q_nil⟩⟩⟩⟩⟩⟩⟩, q_nil, q_nil, q_nil, q_nil, q_nil, (fun h => absurd h (by decide))⟩
set_option maxRecDepth 100000 in
set_option maxHeartbeats 4000000 in
theorem ctX11_binds (l : Launch) : q_CT l yX11_binds (.code yX11_binds cX11_binds 5 (some .int)) 3 0 0 spX11_binds := by
  refine q_ct_of EX11_binds (by decide +kernel) (okX11_binds l) rfl rfl rfl rfl rfl q_nil (fun ci h => by cases h) rfl ?_
  intro a w K h
  obtain ⟨tl, hb, td, tr, lf, tx, rb, N, B, R, L, G, B2, R2, L2, G2, P, W, S, Cc, Y, D, p, m, ld, d, rfl, rfl, hC0, hL, hK⟩ := h
  refine ⟨Nat.le_of_ble_eq_true rfl, fun C hC => hC _ _ _ _ _ _ ?_⟩
  refine ⟨P, p, rfl, rfl, And.intro (fun c => ?_) (fun c => ?_)⟩
  · have c : perB P p = false := bI_0.mp c
    rw [c] at hK
    exact ⟨_, _, _, _, _, _, rfl, rfl, hK⟩
  · have c : perB P p = true := bI_n0.mp c
    rw [c, Bool.true_and] at hK
    refine ⟨B.1, 1, ld, _, _, _, _, _, _, _, rfl, rfl, by decide, And.intro (fun c2 => ?_) (fun c2 => ?_)⟩
    · have c2 : toldB B.1 1 ld = true := bI_n0.mp c2
      rw [if_pos c2] at hK
      refine ⟨m, rfl, rfl, And.intro (fun c3 => ?_) (fun c3 => ?_)⟩
      · have c3 : matB m = false := bI_0.mp c3
        rw [c3] at hK
        exact ⟨_, _, _, _, _, _, rfl, rfl, hK⟩
      · have c3 : matB m = true := bI_n0.mp c3
        rw [c3, Bool.true_and] at hK
        refine ⟨d, rfl, rfl, And.intro (fun c4 => ?_) (fun c4 => ?_)⟩
        · have c4 : dayB d = true := bI_n0.mp c4
          rw [if_pos c4] at hK
          exact ⟨Cc, L, p, m, ld, d, rfl, rfl, hC0, hL, _, _, _, _, _, _, rfl, rfl, hK⟩
        · have c4 : dayB d = false := bI_0.mp c4
          rw [c4] at hK
          exact ⟨_, _, _, _, _, _, rfl, rfl, hK⟩
    · have c2 : toldB B.1 1 ld = false := bI_0.mp c2
      rw [c2] at hK
      exact ⟨_, _, _, _, _, _, rfl, rfl, hK⟩
def tX11_unlike : List q_I := [(0, .aload_n 0, 1, 0, 0), (1, .getfield 35, 3, 0, 0), (4, .iload_n 1, 1, 0, 0), (5, .invokevirtual 162, 3, 0, 0), (8, .ifCond .ne 9, 3, 0, 17), (11, .aload_n 0, 1, 0, 0), (12, .iconst 1, 1, 1, 0), (13, .invokevirtual 84, 3, 0, 0), (16, .ireturn, 1, 0, 0), (17, .iload_n 2, 1, 0, 0), (18, .invokestatic 264, 3, 0, 0), (21, .ifCond .eq 10, 3, 0, 31), (24, .iload_n 3, 1, 0, 0), (25, .invokestatic 152, 3, 0, 0), (28, .ifCond .ne 9, 3, 0, 37), (31, .aload_n 0, 1, 0, 0), (32, .iconst 2, 1, 2, 0), (33, .invokevirtual 84, 3, 0, 0), (36, .ireturn, 1, 0, 0), (37, .aload_n 0, 1, 0, 0), (38, .aload_n 0, 1, 0, 0), (39, .getfield 58, 3, 0, 0), (42, .iload_n 1, 1, 0, 0), (43, .iload_n 2, 1, 0, 0), (44, .iload_n 3, 1, 0, 0), (45, .aload_n 0, 1, 0, 0), (46, .getfield 16, 3, 0, 0), (49, .invokevirtual 274, 3, 0, 0), (52, .invokevirtual 113, 3, 0, 0), (55, .ireturn, 1, 0, 0)]
theorem tX11_unlike_ok : (tX11_unlike.all (q_okI cX11_unlike)) = true := by decide +kernel

abbrev fdX11_unlike : List (Nat ⊕ (Nat × Nat)) := [.inl 0, .inr (0, 0), .inr (0, 2), .inr (2, 0), .inr (2, 1), .inr (2, 2), .inr (2, 3), .inr (2, 5), .inr (7, 0), .inr (7, 1), .inr (7, 2), .inr (7, 3), .inr (7, 4), .inr (7, 5), .inr (7, 6), .inr (2, 6), .inr (15, 0), .inr (15, 1), .inr (15, 2), .inr (15, 3), .inr (15, 4), .inr (15, 5), .inr (15, 6), .inr (2, 7), .inr (23, 0), .inr (23, 1), .inr (23, 2), .inr (23, 3), .inr (23, 4), .inr (23, 5), .inr (23, 6), .inr (23, 7), .inr (0, 3), .inr (32, 0), .inr (32, 1), .inr (32, 2), .inr (32, 3), .inr (32, 5), .inr (37, 0), .inr (37, 1), .inr (37, 2), .inr (37, 3), .inr (37, 4), .inr (37, 5), .inr (37, 6), .inr (32, 6), .inr (45, 0), .inr (45, 1), .inr (45, 2), .inr (45, 3), .inr (45, 4), .inr (45, 5), .inr (45, 6), .inr (32, 7), .inr (53, 0), .inr (53, 1), .inr (53, 2), .inr (53, 3), .inr (53, 4), .inr (53, 5), .inr (53, 6), .inr (53, 7), .inr (0, 4), .inr (62, 2), .inr (0, 7), .inr (64, 0), .inr (64, 1), .inr (64, 2), .inr (64, 3), .inr (64, 4), .inr (64, 5), .inr (0, 8), .inr (71, 1), .inr (71, 2), .inr (71, 3), .inr (71, 4), .inr (71, 5), .inr (71, 6), .inr (0, 9), .inr (78, 0), .inr (78, 1), .inr (78, 2), .inr (78, 3), .inr (78, 4), .inr (0, 10), .inr (84, 0), .inr (84, 1), .inr (84, 2), .inr (84, 3), .inr (84, 4), .inr (84, 5), .inr (84, 6), .inr (0, 11), .inr (92, 0), .inr (92, 1), .inr (92, 2), .inr (92, 3), .inr (92, 4), .inr (92, 5), .inr (0, 12), .inr (99, 0), .inr (99, 1), .inr (99, 2)]
def spX11_unlike : q_P := fun a w K => ∃ (tl : Nat) (hb : Bool) (td : Int32) (tr : Int32) (lf : Int32) (tx : Nat → Int32) (rb : Value) (N : NT) (B : BT) (R : RT) (L : LT) (G : GT) (B2 : BT) (R2 : RT) (L2 : LT) (G2 : GT) (P : PT) (W : WT) (S : ST) (Cc : CT) (Y : YT) (D : DT) (n : Nat) (p m d : Int32), w = (stripW 0 tl hb td tr lf tx rb N B R L G B2 R2 L2 G2 P W S Cc Y D) ∧ a = [.ref 0, .int p, .int m, .int d] ∧ Cc.2.2.2.2.2.2.2 ≤ 20 ∧ L_n L ≤ 24 ∧ B.1 1 = nI n ∧ n ≤ 5 ∧ (if perB P p = true then (if (matB m && dayB d) = true then ∀ g, K (.inl (some (.int (nI (unlT (fun i => bndV Cc L p m (nI i) d) n))))) (stripW 0 tl hb td (0) lf tx rb N B R L G B2 R2 L2 G2 P W S (courtB Cc g) Y D) else K (.inl (some (.int (-1)))) (stripW 0 tl hb td (2) lf tx rb N B R L G B2 R2 L2 G2 P W S Cc Y D)) else K (.inl (some (.int (-1)))) (stripW 0 tl hb td (1) lf tx rb N B R L G B2 R2 L2 G2 P W S Cc Y D))
abbrev csX11_unlike : q_S := (4, 11, 4, 4, 0, 0, fdX11_unlike, spX11_unlike)
theorem coX11_274 (l : Launch) : q_CO l RX11 274 csX1_countUnlike := ⟨yX1_countUnlike, cX1_countUnlike, (some .int), 4, ⟨by decide +kernel, by decide +kernel, by decide +kernel⟩, q_G_i 14 (by decide +kernel) rfl, Or.inl ⟨by decide, rfl, rfl, q_G_i 1059 (by decide +kernel) rfl, q_G_i 1060 (by decide +kernel) rfl, q_G_i 1061 (by decide +kernel) rfl, Or.inl ⟨q_G_i 1062 (by decide +kernel) rfl, ctX1_countUnlike l⟩⟩⟩
def EX11_unlike : q_E := (tX11_unlike, [], 4, flX11, [(162, csX6_has), (84, csX11_refuse), (264, csX1_isMatter), (152, csX11_isDay), (274, csX1_countUnlike), (113, csX11_grant)], [], [], [], [], [], 4, 0, 0, (some .int), [], [], 0, 0)
theorem okX11_unlike (l : Launch) : q_Eok l RX11 cX11_unlike EX11_unlike := ⟨tX11_unlike_ok, flX11_ok, List.forall_mem_cons.mpr ⟨(coX11_162 l), List.forall_mem_cons.mpr ⟨(coX11_84 l), List.forall_mem_cons.mpr ⟨(coX11_264 l), List.forall_mem_cons.mpr ⟨(coX11_152 l), List.forall_mem_cons.mpr ⟨(coX11_274 l), List.forall_mem_cons.mpr ⟨(coX11_113 l), q_nil⟩⟩⟩⟩⟩⟩, q_nil, q_nil, q_nil, q_nil, q_nil, (fun h => absurd h (by decide))⟩
set_option maxRecDepth 100000 in
set_option maxHeartbeats 4000000 in
theorem ctX11_unlike (l : Launch) : q_CT l yX11_unlike (.code yX11_unlike cX11_unlike 4 (some .int)) 4 0 0 spX11_unlike := by
  refine q_ct_of EX11_unlike (by decide +kernel) (okX11_unlike l) rfl rfl rfl rfl rfl q_nil (fun ci h => by cases h) rfl ?_
  intro a w K h
  obtain ⟨tl, hb, td, tr, lf, tx, rb, N, B, R, L, G, B2, R2, L2, G2, P, W, S, Cc, Y, D, n, p, m, d, rfl, rfl, hC0, hL, hB, hn, hK⟩ := h
  refine ⟨Nat.le_of_ble_eq_true rfl, fun C hC => hC _ _ _ _ _ _ ?_⟩
  refine ⟨P, p, rfl, rfl, And.intro (fun c => ?_) (fun c => ?_)⟩
  · have c : perB P p = true := bI_n0.mp c
    rw [if_pos c] at hK
    refine ⟨m, rfl, rfl, And.intro (fun c3 => ?_) (fun c3 => ?_)⟩
    · have c3 : matB m = false := bI_0.mp c3
      rw [c3] at hK
      exact ⟨_, _, _, _, _, _, rfl, rfl, hK⟩
    · have c3 : matB m = true := bI_n0.mp c3
      rw [c3, Bool.true_and] at hK
      refine ⟨d, rfl, rfl, And.intro (fun c4 => ?_) (fun c4 => ?_)⟩
      · have c4 : dayB d = true := bI_n0.mp c4
        rw [if_pos c4] at hK
        exact ⟨Cc, L, B.1, n, p, m, d, _, _, _, _, _, _, rfl, rfl, hC0, hL, hB, hn, fun g => ⟨_, _, _, _, _, _, rfl, rfl, hK g⟩⟩
      · have c4 : dayB d = false := bI_0.mp c4
        rw [c4] at hK
        exact ⟨_, _, _, _, _, _, rfl, rfl, hK⟩
  · have c : perB P p = false := bI_0.mp c
    rw [c] at hK
    exact ⟨_, _, _, _, _, _, rfl, rfl, hK⟩
def thB (x : Int32) : Bool := decide (0 ≤ x ∧ x < 9)
def wdB (x : Int32) : Bool := decide (0 ≤ x ∧ x < 16)
def tX11_clause : List q_I := [(0, .aload_n 0, 1, 0, 0), (1, .getfield 116, 3, 0, 0), (4, .ifCond .eq 10, 3, 0, 14), (7, .iload_n 1, 1, 0, 0), (8, .invokestatic 277, 3, 0, 0), (11, .ifCond .ne 9, 3, 0, 20), (14, .aload_n 0, 1, 0, 0), (15, .iconst 1, 1, 1, 0), (16, .invokevirtual 84, 3, 0, 0), (19, .ireturn, 1, 0, 0), (20, .iload_n 2, 1, 0, 0), (21, .ifCond .lt 10, 3, 0, 31), (24, .iload_n 2, 1, 0, 0), (25, .ldc_w 280, 3, 0, 0), (28, .if_icmp .le 9, 3, 0, 37), (31, .aload_n 0, 1, 0, 0), (32, .iconst 2, 1, 2, 0), (33, .invokevirtual 84, 3, 0, 0), (36, .ireturn, 1, 0, 0), (37, .aload_n 0, 1, 0, 0), (38, .getfield 65, 3, 0, 0), (41, .iload_n 1, 1, 0, 0), (42, .invokevirtual 281, 3, 0, 0), (45, .ifCond .ne 9, 3, 0, 54), (48, .aload_n 0, 1, 0, 0), (49, .iconst 3, 1, 3, 0), (50, .invokevirtual 84, 3, 0, 0), (53, .ireturn, 1, 0, 0), (54, .aload_n 0, 1, 0, 0), (55, .aload_n 0, 1, 0, 0), (56, .getfield 65, 3, 0, 0), (59, .iload_n 1, 1, 0, 0), (60, .iload_n 2, 1, 0, 0), (61, .invokevirtual 284, 3, 0, 0), (64, .invokevirtual 113, 3, 0, 0), (67, .ireturn, 1, 0, 0)]
theorem tX11_clause_ok : (tX11_clause.all (q_okI cX11_clause)) = true := by decide +kernel

abbrev fdX11_clause : List (Nat ⊕ (Nat × Nat)) := [.inl 0, .inr (0, 0), .inr (0, 2), .inr (2, 0), .inr (2, 1), .inr (2, 2), .inr (2, 3), .inr (2, 5), .inr (7, 0), .inr (7, 1), .inr (7, 2), .inr (7, 3), .inr (7, 4), .inr (7, 5), .inr (7, 6), .inr (2, 6), .inr (15, 0), .inr (15, 1), .inr (15, 2), .inr (15, 3), .inr (15, 4), .inr (15, 5), .inr (15, 6), .inr (2, 7), .inr (23, 0), .inr (23, 1), .inr (23, 2), .inr (23, 3), .inr (23, 4), .inr (23, 5), .inr (23, 6), .inr (23, 7), .inr (0, 3), .inr (32, 0), .inr (32, 1), .inr (32, 2), .inr (32, 3), .inr (32, 5), .inr (37, 0), .inr (37, 1), .inr (37, 2), .inr (37, 3), .inr (37, 4), .inr (37, 5), .inr (37, 6), .inr (32, 6), .inr (45, 0), .inr (45, 1), .inr (45, 2), .inr (45, 3), .inr (45, 4), .inr (45, 5), .inr (45, 6), .inr (32, 7), .inr (53, 0), .inr (53, 1), .inr (53, 2), .inr (53, 3), .inr (53, 4), .inr (53, 5), .inr (53, 6), .inr (53, 7), .inr (0, 4), .inr (62, 2), .inr (0, 7), .inr (64, 0), .inr (64, 1), .inr (64, 2), .inr (64, 3), .inr (64, 4), .inr (64, 5), .inr (0, 8), .inr (71, 1), .inr (71, 2), .inr (71, 3), .inr (71, 4), .inr (71, 5), .inr (71, 6), .inr (0, 9), .inr (78, 0), .inr (78, 1), .inr (78, 2), .inr (78, 3), .inr (78, 4), .inr (0, 10), .inr (84, 0), .inr (84, 1), .inr (84, 2), .inr (84, 3), .inr (84, 4), .inr (84, 5), .inr (84, 6), .inr (0, 11), .inr (92, 0), .inr (92, 1), .inr (92, 2), .inr (92, 3), .inr (92, 4), .inr (92, 5), .inr (0, 12), .inr (99, 0), .inr (99, 1), .inr (99, 2)]
def spX11_clause : q_P := fun a w K => ∃ (tl : Nat) (hb : Bool) (td : Int32) (tr : Int32) (lf : Int32) (tx : Nat → Int32) (rb : Value) (N : NT) (B : BT) (R : RT) (L : LT) (G : GT) (B2 : BT) (R2 : RT) (L2 : LT) (G2 : GT) (P : PT) (W : WT) (S : ST) (Cc : CT) (Y : YT) (D : DT) (t x : Int32), w = (stripW 0 tl hb td tr lf tx rb N B R L G B2 R2 L2 G2 P W S Cc Y D) ∧ a = [.ref 0, .int t, .int x] ∧ tOk Y ∧ (if hb = true ∧ thB t = true then (if x < 0 ∨ 65535 < x then K (.inl (some (.int (-1)))) (stripW 0 tl hb td (2) lf tx rb N B R L G B2 R2 L2 G2 P W S Cc Y D) else (if tcF Y.1 t.toNatClampNeg < 4 then K (.inl (some (.int (nI (tcF Y.1 t.toNatClampNeg))))) (stripW 0 tl hb td (0) lf tx rb N B R L G B2 R2 L2 G2 P W S Cc (clauseAdd Y t.toNatClampNeg x) D) else K (.inl (some (.int (-1)))) (stripW 0 tl hb td (3) lf tx rb N B R L G B2 R2 L2 G2 P W S Cc Y D))) else K (.inl (some (.int (-1)))) (stripW 0 tl hb td (1) lf tx rb N B R L G B2 R2 L2 G2 P W S Cc Y D))
abbrev csX11_clause : q_S := (3, 11, 1, 3, 0, 0, fdX11_clause, spX11_clause)
theorem coX11_277 (l : Launch) : q_CO l RX11 277 csX9_isThing := ⟨yX9_isThing, cX9_isThing, (some .boolean), 1, ⟨by decide +kernel, by decide +kernel, by decide +kernel⟩, q_G_i 15 (by decide +kernel) rfl, Or.inr (Or.inr (Or.inr ⟨rfl, rfl, q_G_i 1068 (by decide +kernel) rfl, q_G_i 1069 (by decide +kernel) rfl, Or.inl ⟨q_G_i 1070 (by decide +kernel) rfl, ctX9_isThing l⟩⟩))⟩
theorem coX11_281 (l : Launch) : q_CO l RX11 281 csX9_hasClauseRoom := ⟨yX9_hasClauseRoom, cX9_hasClauseRoom, (some .boolean), 1, ⟨by decide +kernel, by decide +kernel, by decide +kernel⟩, q_G_i 15 (by decide +kernel) rfl, Or.inl ⟨by decide, rfl, rfl, q_G_i 1072 (by decide +kernel) rfl, q_G_i 1073 (by decide +kernel) rfl, q_G_i 1074 (by decide +kernel) rfl, Or.inl ⟨q_G_i 1075 (by decide +kernel) rfl, ctX9_hasClauseRoom l⟩⟩⟩
theorem coX11_284 (l : Launch) : q_CO l RX11 284 csX9_addClause := ⟨yX9_addClause, cX9_addClause, (some .int), 2, ⟨by decide +kernel, by decide +kernel, by decide +kernel⟩, q_G_i 15 (by decide +kernel) rfl, Or.inl ⟨by decide, rfl, rfl, q_G_i 1076 (by decide +kernel) rfl, q_G_i 1077 (by decide +kernel) rfl, q_G_i 1078 (by decide +kernel) rfl, Or.inl ⟨q_G_i 1079 (by decide +kernel) rfl, ctX9_addClause l⟩⟩⟩
def EX11_clause : q_E := (tX11_clause, [], 3, flX11, [(277, csX9_isThing), (84, csX11_refuse), (281, csX9_hasClauseRoom), (284, csX9_addClause), (113, csX11_grant)], [], [(280, 65535)], [], [], [], 1, 0, 0, (some .int), [], [], 0, 0)
theorem okX11_clause (l : Launch) : q_Eok l RX11 cX11_clause EX11_clause := ⟨tX11_clause_ok, flX11_ok, List.forall_mem_cons.mpr ⟨(coX11_277 l), List.forall_mem_cons.mpr ⟨(coX11_84 l), List.forall_mem_cons.mpr ⟨(coX11_281 l), List.forall_mem_cons.mpr ⟨(coX11_284 l), List.forall_mem_cons.mpr ⟨(coX11_113 l), q_nil⟩⟩⟩⟩⟩, q_nil, List.forall_mem_cons.mpr ⟨q_G_i 1071 (by decide +kernel) rfl, q_nil⟩, q_nil, q_nil, q_nil, (fun h => absurd h (by decide))⟩
set_option maxRecDepth 100000 in
set_option maxHeartbeats 4000000 in
theorem ctX11_clause (l : Launch) : q_CT l yX11_clause (.code yX11_clause cX11_clause 3 (some .int)) 1 0 0 spX11_clause := by
  refine q_ct_of EX11_clause (by decide +kernel) (okX11_clause l) rfl rfl rfl rfl rfl q_nil (fun ci h => by cases h) rfl ?_
  intro a w K h
  obtain ⟨tl, hb, td, tr, lf, tx, rb, N, B, R, L, G, B2, R2, L2, G2, P, W, S, Cc, Y, D, t, x, rfl, rfl, ho, hK⟩ := h
  refine ⟨Nat.le_of_ble_eq_true rfl, fun C hC => hC _ _ _ _ _ _ ?_⟩
  refine And.intro (fun c => ?_) (fun c => ?_)
  · rw [if_neg (fun z => by rw [z.1] at c; exact absurd c (by decide))] at hK
    exact ⟨_, _, _, _, _, _, rfl, rfl, hK⟩
  · have c := bI_n0.mp c
    refine ⟨t, rfl, rfl, And.intro (fun c2 => ?_) (fun c2 => ?_)⟩
    · have c2 : thB t = true := bI_n0.mp c2
      rw [if_pos ⟨c, c2⟩] at hK
      obtain ⟨t, rfl, ht⟩ := inI (n := 9) (by omega) (of_decide_eq_true c2)
      rw [nI_clamp (by omega)] at hK
      refine And.intro (fun c3 => ?_) (fun c3 => And.intro (fun c4 => ?_) (fun c4 => ?_))
      · rw [if_pos (Or.inl c3)] at hK
        exact ⟨_, _, _, _, _, _, rfl, rfl, hK⟩
      · rw [if_neg (fun z => z.elim c3 (Int32.not_lt.mpr c4))] at hK
        refine ⟨Y, t, rfl, rfl, ho, ht, And.intro (fun c5 => ?_) (fun c5 => ?_)⟩
        · have c5 := of_decide_eq_true (bI_n0.mp c5)
          rw [if_pos c5] at hK
          exact ⟨Y, t, x, rfl, rfl, ho, ht, c5, _, _, _, _, _, _, rfl, rfl, hK⟩
        · rw [if_neg (of_decide_eq_false (bI_0.mp c5))] at hK
          exact ⟨_, _, _, _, _, _, rfl, rfl, hK⟩
      · rw [if_pos (Or.inr (Int32.not_le.mp c4))] at hK
        exact ⟨_, _, _, _, _, _, rfl, rfl, hK⟩
    · have c2 : thB t = false := bI_0.mp c2
      rw [if_neg (fun z => by rw [c2] at z; exact absurd z.2 (by decide))] at hK
      exact ⟨_, _, _, _, _, _, rfl, rfl, hK⟩
def tX11_quarrel : List q_I := [(0, .aload_n 0, 1, 0, 0), (1, .getfield 116, 3, 0, 0), (4, .ifCond .ne 9, 3, 0, 13), (7, .aload_n 0, 1, 0, 0), (8, .iconst 1, 1, 1, 0), (9, .invokevirtual 84, 3, 0, 0), (12, .ireturn, 1, 0, 0), (13, .iload_n 1, 1, 0, 0), (14, .invokestatic 287, 3, 0, 0), (17, .ifCond .eq 10, 3, 0, 27), (20, .iload_n 2, 1, 0, 0), (21, .invokestatic 287, 3, 0, 0), (24, .ifCond .ne 9, 3, 0, 33), (27, .aload_n 0, 1, 0, 0), (28, .iconst 2, 1, 2, 0), (29, .invokevirtual 84, 3, 0, 0), (32, .ireturn, 1, 0, 0), (33, .aload_n 0, 1, 0, 0), (34, .getfield 65, 3, 0, 0), (37, .getfield 290, 3, 0, 0), (40, .bipush 20, 2, 20, 0), (42, .if_icmp .lt 9, 3, 0, 51), (45, .aload_n 0, 1, 0, 0), (46, .iconst 3, 1, 3, 0), (47, .invokevirtual 84, 3, 0, 0), (50, .ireturn, 1, 0, 0), (51, .aload_n 0, 1, 0, 0), (52, .aload_n 0, 1, 0, 0), (53, .getfield 65, 3, 0, 0), (56, .iload_n 1, 1, 0, 0), (57, .iload_n 2, 1, 0, 0), (58, .invokevirtual 293, 3, 0, 0), (61, .invokevirtual 113, 3, 0, 0), (64, .ireturn, 1, 0, 0)]
theorem tX11_quarrel_ok : (tX11_quarrel.all (q_okI cX11_quarrel)) = true := by decide +kernel

abbrev fdX11_quarrel : List (Nat ⊕ (Nat × Nat)) := [.inl 0, .inr (0, 0), .inr (0, 2), .inr (2, 0), .inr (2, 1), .inr (2, 2), .inr (2, 3), .inr (2, 5), .inr (7, 0), .inr (7, 1), .inr (7, 2), .inr (7, 3), .inr (7, 4), .inr (7, 5), .inr (7, 6), .inr (2, 6), .inr (15, 0), .inr (15, 1), .inr (15, 2), .inr (15, 3), .inr (15, 4), .inr (15, 5), .inr (15, 6), .inr (2, 7), .inr (23, 0), .inr (23, 1), .inr (23, 2), .inr (23, 3), .inr (23, 4), .inr (23, 5), .inr (23, 6), .inr (23, 7), .inr (0, 3), .inr (32, 0), .inr (32, 1), .inr (32, 2), .inr (32, 3), .inr (32, 5), .inr (37, 0), .inr (37, 1), .inr (37, 2), .inr (37, 3), .inr (37, 4), .inr (37, 5), .inr (37, 6), .inr (32, 6), .inr (45, 0), .inr (45, 1), .inr (45, 2), .inr (45, 3), .inr (45, 4), .inr (45, 5), .inr (45, 6), .inr (32, 7), .inr (53, 0), .inr (53, 1), .inr (53, 2), .inr (53, 3), .inr (53, 4), .inr (53, 5), .inr (53, 6), .inr (53, 7), .inr (0, 4), .inr (62, 2), .inr (0, 7), .inr (64, 0), .inr (64, 1), .inr (64, 2), .inr (64, 3), .inr (64, 4), .inr (64, 5), .inr (0, 8), .inr (71, 1), .inr (71, 2), .inr (71, 3), .inr (71, 4), .inr (71, 5), .inr (71, 6), .inr (0, 9), .inr (78, 0), .inr (78, 1), .inr (78, 2), .inr (78, 3), .inr (78, 4), .inr (0, 10), .inr (84, 0), .inr (84, 1), .inr (84, 2), .inr (84, 3), .inr (84, 4), .inr (84, 5), .inr (84, 6), .inr (0, 11), .inr (92, 0), .inr (92, 1), .inr (92, 2), .inr (92, 3), .inr (92, 4), .inr (92, 5), .inr (0, 12), .inr (99, 0), .inr (99, 1), .inr (99, 2)]
def spX11_quarrel : q_P := fun a w K => ∃ (tl : Nat) (hb : Bool) (td : Int32) (tr : Int32) (lf : Int32) (tx : Nat → Int32) (rb : Value) (N : NT) (B : BT) (R : RT) (L : LT) (G : GT) (B2 : BT) (R2 : RT) (L2 : LT) (G2 : GT) (P : PT) (W : WT) (S : ST) (Cc : CT) (Y : YT) (D : DT) (x y : Int32), w = (stripW 0 tl hb td tr lf tx rb N B R L G B2 R2 L2 G2 P W S Cc Y D) ∧ a = [.ref 0, .int x, .int y] ∧ Y.2.2.2.2.2.2.2.1 ≤ 20 ∧ (if hb = true then (if (wdB x && wdB y) = true then (if Y.2.2.2.2.2.2.2.1 < 20 then K (.inl (some (.int (nI (Y.2.2.2.2.2.2.2.1 + 1))))) (stripW 0 tl hb td (0) lf tx rb N B R L G B2 R2 L2 G2 P W S Cc ((Y.1, Y.2.1, foesQ Y.2.2.1 x.toNatClampNeg y.toNatClampNeg, Y.2.2.2.1, Y.2.2.2.2.1, Y.2.2.2.2.2.1, Y.2.2.2.2.2.2.1, Y.2.2.2.2.2.2.2.1 + 1, 1)) D) else K (.inl (some (.int (-1)))) (stripW 0 tl hb td (3) lf tx rb N B R L G B2 R2 L2 G2 P W S Cc Y D)) else K (.inl (some (.int (-1)))) (stripW 0 tl hb td (2) lf tx rb N B R L G B2 R2 L2 G2 P W S Cc Y D)) else K (.inl (some (.int (-1)))) (stripW 0 tl hb td (1) lf tx rb N B R L G B2 R2 L2 G2 P W S Cc Y D))
abbrev csX11_quarrel : q_S := (3, 11, 1, 3, 0, 0, fdX11_quarrel, spX11_quarrel)
theorem coX11_287 (l : Launch) : q_CO l RX11 287 csX9_isWord := ⟨yX9_isWord, cX9_isWord, (some .boolean), 1, ⟨by decide +kernel, by decide +kernel, by decide +kernel⟩, q_G_i 15 (by decide +kernel) rfl, Or.inr (Or.inr (Or.inr ⟨rfl, rfl, q_G_i 1084 (by decide +kernel) rfl, q_G_i 1085 (by decide +kernel) rfl, Or.inl ⟨q_G_i 1086 (by decide +kernel) rfl, ctX9_isWord l⟩⟩))⟩
theorem coX11_293 (l : Launch) : q_CO l RX11 293 csX9_addQuarrel := ⟨yX9_addQuarrel, cX9_addQuarrel, (some .int), 2, ⟨by decide +kernel, by decide +kernel, by decide +kernel⟩, q_G_i 15 (by decide +kernel) rfl, Or.inl ⟨by decide, rfl, rfl, q_G_i 1087 (by decide +kernel) rfl, q_G_i 1088 (by decide +kernel) rfl, q_G_i 1089 (by decide +kernel) rfl, Or.inl ⟨q_G_i 1090 (by decide +kernel) rfl, ctX9_addQuarrel l⟩⟩⟩
def EX11_quarrel : q_E := (tX11_quarrel, [], 3, flX11, [(84, csX11_refuse), (287, csX9_isWord), (293, csX9_addQuarrel), (113, csX11_grant)], [], [], [], [], [], 1, 0, 0, (some .int), [], [], 0, 0)
theorem okX11_quarrel (l : Launch) : q_Eok l RX11 cX11_quarrel EX11_quarrel := ⟨tX11_quarrel_ok, flX11_ok, List.forall_mem_cons.mpr ⟨(coX11_84 l), List.forall_mem_cons.mpr ⟨(coX11_287 l), List.forall_mem_cons.mpr ⟨(coX11_293 l), List.forall_mem_cons.mpr ⟨(coX11_113 l), q_nil⟩⟩⟩⟩, q_nil, q_nil, q_nil, q_nil, q_nil, (fun h => absurd h (by decide))⟩
set_option maxRecDepth 100000 in
set_option maxHeartbeats 4000000 in
theorem ctX11_quarrel (l : Launch) : q_CT l yX11_quarrel (.code yX11_quarrel cX11_quarrel 3 (some .int)) 1 0 0 spX11_quarrel := by
  refine q_ct_of EX11_quarrel (by decide +kernel) (okX11_quarrel l) rfl rfl rfl rfl rfl q_nil (fun ci h => by cases h) rfl ?_
  intro a w K h
  obtain ⟨tl, hb, td, tr, lf, tx, rb, N, B, R, L, G, B2, R2, L2, G2, P, W, S, Cc, Y, D, x, y, rfl, rfl, hq, hK⟩ := h
  refine ⟨Nat.le_of_ble_eq_true rfl, fun C hC => hC _ _ _ _ _ _ ?_⟩
  refine And.intro (fun c => ?_) (fun c => ?_)
  · rw [if_pos (bI_n0.mp c)] at hK
    refine ⟨x, rfl, rfl, And.intro (fun c2 => ?_) (fun c2 => ?_)⟩
    · have c2 : wdB x = false := bI_0.mp c2
      rw [c2] at hK
      exact ⟨_, _, _, _, _, _, rfl, rfl, hK⟩
    · have c2 : wdB x = true := bI_n0.mp c2
      rw [c2, Bool.true_and] at hK
      refine ⟨y, rfl, rfl, And.intro (fun c3 => ?_) (fun c3 => ?_)⟩
      · have c3 : wdB y = true := bI_n0.mp c3
        rw [if_pos c3] at hK
        refine And.intro (fun c5 => ?_) (fun c5 => ?_)
        · have h9 : Y.2.2.2.2.2.2.2.1 < 20 := by
            rcases Nat.lt_or_ge Y.2.2.2.2.2.2.2.1 20 with z | z
            · exact z
            · exact absurd c5 (Int32.not_lt.mpr (nI_le (a := 20) z (by omega)))
          rw [if_pos h9] at hK
          obtain ⟨x, rfl, hx⟩ := inI (n := 16) (by omega) (of_decide_eq_true c2)
          obtain ⟨y, rfl, hy⟩ := inI (n := 16) (by omega) (of_decide_eq_true c3)
          rw [nI_clamp (by omega), nI_clamp (by omega)] at hK
          exact ⟨Y, x, y, rfl, rfl, hx, hy, _, _, _, _, _, _, rfl, rfl, hK⟩
        · rw [if_neg (c := Y.2.2.2.2.2.2.2.1 < 20) (fun z => c5 (nI_lt (b := 20) z (by omega)))] at hK
          exact ⟨_, _, _, _, _, _, rfl, rfl, hK⟩
      · have c3 : wdB y = false := bI_0.mp c3
        rw [c3] at hK
        exact ⟨_, _, _, _, _, _, rfl, rfl, hK⟩
  · rw [if_neg (by rw [bI_0.mp c]; decide)] at hK
    exact ⟨_, _, _, _, _, _, rfl, rfl, hK⟩
def tX11_signed : List q_I := [(0, .aload_n 0, 1, 0, 0), (1, .getfield 116, 3, 0, 0), (4, .ifCond .ne 9, 3, 0, 13), (7, .aload_n 0, 1, 0, 0), (8, .iconst 1, 1, 1, 0), (9, .invokevirtual 84, 3, 0, 0), (12, .ireturn, 1, 0, 0), (13, .aload_n 0, 1, 0, 0), (14, .getfield 65, 3, 0, 0), (17, .invokevirtual 296, 3, 0, 0), (20, .aload_n 0, 1, 0, 0), (21, .aload_n 0, 1, 0, 0), (22, .getfield 65, 3, 0, 0), (25, .getfield 299, 3, 0, 0), (28, .invokevirtual 113, 3, 0, 0), (31, .ireturn, 1, 0, 0)]
theorem tX11_signed_ok : (tX11_signed.all (q_okI cX11_signed)) = true := by decide +kernel

abbrev fdX11_signed : List (Nat ⊕ (Nat × Nat)) := [.inl 0, .inr (0, 0), .inr (0, 2), .inr (2, 0), .inr (2, 1), .inr (2, 2), .inr (2, 3), .inr (2, 5), .inr (7, 0), .inr (7, 1), .inr (7, 2), .inr (7, 3), .inr (7, 4), .inr (7, 5), .inr (7, 6), .inr (2, 6), .inr (15, 0), .inr (15, 1), .inr (15, 2), .inr (15, 3), .inr (15, 4), .inr (15, 5), .inr (15, 6), .inr (2, 7), .inr (23, 0), .inr (23, 1), .inr (23, 2), .inr (23, 3), .inr (23, 4), .inr (23, 5), .inr (23, 6), .inr (23, 7), .inr (0, 3), .inr (32, 0), .inr (32, 1), .inr (32, 2), .inr (32, 3), .inr (32, 5), .inr (37, 0), .inr (37, 1), .inr (37, 2), .inr (37, 3), .inr (37, 4), .inr (37, 5), .inr (37, 6), .inr (32, 6), .inr (45, 0), .inr (45, 1), .inr (45, 2), .inr (45, 3), .inr (45, 4), .inr (45, 5), .inr (45, 6), .inr (32, 7), .inr (53, 0), .inr (53, 1), .inr (53, 2), .inr (53, 3), .inr (53, 4), .inr (53, 5), .inr (53, 6), .inr (53, 7), .inr (0, 4), .inr (62, 2), .inr (0, 7), .inr (64, 0), .inr (64, 1), .inr (64, 2), .inr (64, 3), .inr (64, 4), .inr (64, 5), .inr (0, 8), .inr (71, 1), .inr (71, 2), .inr (71, 3), .inr (71, 4), .inr (71, 5), .inr (71, 6), .inr (0, 9), .inr (78, 0), .inr (78, 1), .inr (78, 2), .inr (78, 3), .inr (78, 4), .inr (0, 10), .inr (84, 0), .inr (84, 1), .inr (84, 2), .inr (84, 3), .inr (84, 4), .inr (84, 5), .inr (84, 6), .inr (0, 11), .inr (92, 0), .inr (92, 1), .inr (92, 2), .inr (92, 3), .inr (92, 4), .inr (92, 5), .inr (0, 12), .inr (99, 0), .inr (99, 1), .inr (99, 2)]
def spX11_signed : q_P := fun a w K => ∃ (tl : Nat) (hb : Bool) (td : Int32) (tr : Int32) (lf : Int32) (tx : Nat → Int32) (rb : Value) (N : NT) (B : BT) (R : RT) (L : LT) (G : GT) (B2 : BT) (R2 : RT) (L2 : LT) (G2 : GT) (P : PT) (W : WT) (S : ST) (Cc : CT) (Y : YT) (D : DT), w = (stripW 0 tl hb td tr lf tx rb N B R L G B2 R2 L2 G2 P W S Cc Y D) ∧ a = [.ref 0] ∧ tOk Y ∧ (if hb = true then (¬ Y.2.2.2.2.2.2.2.2 = 0 → ∀ br, brOk Y br 9 → K (.inl (some (.int (ySet Y br).2.2.2.2.2.2.1))) (stripW 0 tl hb td (0) lf tx rb N B R L G B2 R2 L2 G2 P W S Cc (ySet Y br) D)) ∧ (Y.2.2.2.2.2.2.2.2 = 0 → K (.inl (some (.int Y.2.2.2.2.2.2.1))) (stripW 0 tl hb td (0) lf tx rb N B R L G B2 R2 L2 G2 P W S Cc Y D)) else K (.inl (some (.int (-1)))) (stripW 0 tl hb td (1) lf tx rb N B R L G B2 R2 L2 G2 P W S Cc Y D))
abbrev csX11_signed : q_S := (1, 11, 13, 1, 0, 0, fdX11_signed, spX11_signed)
theorem coX11_296 (l : Launch) : q_CO l RX11 296 csX9_settle := ⟨yX9_settle, cX9_settle, none, 0, ⟨by decide +kernel, by decide +kernel, by decide +kernel⟩, q_G_i 15 (by decide +kernel) rfl, Or.inl ⟨by decide, rfl, rfl, q_G_i 1095 (by decide +kernel) rfl, q_G_i 1096 (by decide +kernel) rfl, q_G_i 1097 (by decide +kernel) rfl, Or.inl ⟨q_G_i 1098 (by decide +kernel) rfl, ctX9_settle l⟩⟩⟩
def EX11_signed : q_E := (tX11_signed, [], 1, flX11, [(84, csX11_refuse), (296, csX9_settle), (113, csX11_grant)], [], [], [], [], [], 13, 0, 0, (some .int), [], [], 0, 0)
theorem okX11_signed (l : Launch) : q_Eok l RX11 cX11_signed EX11_signed := ⟨tX11_signed_ok, flX11_ok, List.forall_mem_cons.mpr ⟨(coX11_84 l), List.forall_mem_cons.mpr ⟨(coX11_296 l), List.forall_mem_cons.mpr ⟨(coX11_113 l), q_nil⟩⟩⟩, q_nil, q_nil, q_nil, q_nil, q_nil, (fun h => absurd h (by decide))⟩
set_option maxRecDepth 100000 in
set_option maxHeartbeats 4000000 in
theorem ctX11_signed (l : Launch) : q_CT l yX11_signed (.code yX11_signed cX11_signed 1 (some .int)) 13 0 0 spX11_signed := by
  refine q_ct_of EX11_signed (by decide +kernel) (okX11_signed l) rfl rfl rfl rfl rfl q_nil (fun ci h => by cases h) rfl ?_
  intro a w K h
  obtain ⟨tl, hb, td, tr, lf, tx, rb, N, B, R, L, G, B2, R2, L2, G2, P, W, S, Cc, Y, D, rfl, rfl, ho, hK⟩ := h
  refine ⟨Nat.le_of_ble_eq_true rfl, fun C hC => hC _ _ _ _ _ _ ?_⟩
  refine And.intro (fun c => ?_) (fun c => ?_)
  · rw [if_pos (bI_n0.mp c)] at hK
    exact ⟨Y, rfl, rfl, ho, fun c2 br hbr => ⟨_, _, _, _, _, _, rfl, rfl, hK.1 c2 br hbr⟩, fun c2 => ⟨_, _, _, _, _, _, rfl, rfl, hK.2 c2⟩⟩
  · rw [if_neg (by rw [bI_0.mp c]; decide)] at hK
    exact ⟨_, _, _, _, _, _, rfl, rfl, hK⟩
def tX11_signs : List q_I := [(0, .aload_n 0, 1, 0, 0), (1, .getfield 116, 3, 0, 0), (4, .ifCond .eq 10, 3, 0, 14), (7, .iload_n 1, 1, 0, 0), (8, .invokestatic 277, 3, 0, 0), (11, .ifCond .ne 9, 3, 0, 20), (14, .aload_n 0, 1, 0, 0), (15, .iconst 1, 1, 1, 0), (16, .invokevirtual 84, 3, 0, 0), (19, .ireturn, 1, 0, 0), (20, .aload_n 0, 1, 0, 0), (21, .getfield 65, 3, 0, 0), (24, .invokevirtual 296, 3, 0, 0), (27, .aload_n 0, 1, 0, 0), (28, .aload_n 0, 1, 0, 0), (29, .getfield 65, 3, 0, 0), (32, .getfield 302, 3, 0, 0), (35, .iload_n 1, 1, 0, 0), (36, .iaload, 1, 0, 0), (37, .invokevirtual 113, 3, 0, 0), (40, .ireturn, 1, 0, 0)]
theorem tX11_signs_ok : (tX11_signs.all (q_okI cX11_signs)) = true := by decide +kernel

abbrev fdX11_signs : List (Nat ⊕ (Nat × Nat)) := [.inl 0, .inr (0, 0), .inr (0, 2), .inr (2, 0), .inr (2, 1), .inr (2, 2), .inr (2, 3), .inr (2, 5), .inr (7, 0), .inr (7, 1), .inr (7, 2), .inr (7, 3), .inr (7, 4), .inr (7, 5), .inr (7, 6), .inr (2, 6), .inr (15, 0), .inr (15, 1), .inr (15, 2), .inr (15, 3), .inr (15, 4), .inr (15, 5), .inr (15, 6), .inr (2, 7), .inr (23, 0), .inr (23, 1), .inr (23, 2), .inr (23, 3), .inr (23, 4), .inr (23, 5), .inr (23, 6), .inr (23, 7), .inr (0, 3), .inr (32, 0), .inr (32, 1), .inr (32, 2), .inr (32, 3), .inr (32, 5), .inr (37, 0), .inr (37, 1), .inr (37, 2), .inr (37, 3), .inr (37, 4), .inr (37, 5), .inr (37, 6), .inr (32, 6), .inr (45, 0), .inr (45, 1), .inr (45, 2), .inr (45, 3), .inr (45, 4), .inr (45, 5), .inr (45, 6), .inr (32, 7), .inr (53, 0), .inr (53, 1), .inr (53, 2), .inr (53, 3), .inr (53, 4), .inr (53, 5), .inr (53, 6), .inr (53, 7), .inr (0, 4), .inr (62, 2), .inr (0, 7), .inr (64, 0), .inr (64, 1), .inr (64, 2), .inr (64, 3), .inr (64, 4), .inr (64, 5), .inr (0, 8), .inr (71, 1), .inr (71, 2), .inr (71, 3), .inr (71, 4), .inr (71, 5), .inr (71, 6), .inr (0, 9), .inr (78, 0), .inr (78, 1), .inr (78, 2), .inr (78, 3), .inr (78, 4), .inr (0, 10), .inr (84, 0), .inr (84, 1), .inr (84, 2), .inr (84, 3), .inr (84, 4), .inr (84, 5), .inr (84, 6), .inr (0, 11), .inr (92, 0), .inr (92, 1), .inr (92, 2), .inr (92, 3), .inr (92, 4), .inr (92, 5), .inr (0, 12), .inr (99, 0), .inr (99, 1), .inr (99, 2)]
def spX11_signs : q_P := fun a w K => ∃ (tl : Nat) (hb : Bool) (td : Int32) (tr : Int32) (lf : Int32) (tx : Nat → Int32) (rb : Value) (N : NT) (B : BT) (R : RT) (L : LT) (G : GT) (B2 : BT) (R2 : RT) (L2 : LT) (G2 : GT) (P : PT) (W : WT) (S : ST) (Cc : CT) (Y : YT) (D : DT) (t : Int32), w = (stripW 0 tl hb td tr lf tx rb N B R L G B2 R2 L2 G2 P W S Cc Y D) ∧ a = [.ref 0, .int t] ∧ tOk Y ∧ (if hb = true ∧ thB t = true then (¬ Y.2.2.2.2.2.2.2.2 = 0 → ∀ br, brOk Y br 9 → K (.inl (some (.int ((ySet Y br).2.2.2.2.2.1 t.toNatClampNeg)))) (stripW 0 tl hb td (0) lf tx rb N B R L G B2 R2 L2 G2 P W S Cc (ySet Y br) D)) ∧ (Y.2.2.2.2.2.2.2.2 = 0 → K (.inl (some (.int (Y.2.2.2.2.2.1 t.toNatClampNeg)))) (stripW 0 tl hb td (0) lf tx rb N B R L G B2 R2 L2 G2 P W S Cc Y D)) else K (.inl (some (.int (-1)))) (stripW 0 tl hb td (1) lf tx rb N B R L G B2 R2 L2 G2 P W S Cc Y D))
abbrev csX11_signs : q_S := (2, 11, 13, 2, 0, 0, fdX11_signs, spX11_signs)
def EX11_signs : q_E := (tX11_signs, [], 2, flX11, [(277, csX9_isThing), (84, csX11_refuse), (296, csX9_settle), (113, csX11_grant)], [], [], [], [], [], 13, 0, 0, (some .int), [], [], 0, 0)
theorem okX11_signs (l : Launch) : q_Eok l RX11 cX11_signs EX11_signs := ⟨tX11_signs_ok, flX11_ok, List.forall_mem_cons.mpr ⟨(coX11_277 l), List.forall_mem_cons.mpr ⟨(coX11_84 l), List.forall_mem_cons.mpr ⟨(coX11_296 l), List.forall_mem_cons.mpr ⟨(coX11_113 l), q_nil⟩⟩⟩⟩, q_nil, q_nil, q_nil, q_nil, q_nil, (fun h => absurd h (by decide))⟩
set_option maxRecDepth 100000 in
set_option maxHeartbeats 4000000 in
theorem ctX11_signs (l : Launch) : q_CT l yX11_signs (.code yX11_signs cX11_signs 2 (some .int)) 13 0 0 spX11_signs := by
  refine q_ct_of EX11_signs (by decide +kernel) (okX11_signs l) rfl rfl rfl rfl rfl q_nil (fun ci h => by cases h) rfl ?_
  intro a w K h
  obtain ⟨tl, hb, td, tr, lf, tx, rb, N, B, R, L, G, B2, R2, L2, G2, P, W, S, Cc, Y, D, t, rfl, rfl, ho, hK⟩ := h
  refine ⟨Nat.le_of_ble_eq_true rfl, fun C hC => hC _ _ _ _ _ _ ?_⟩
  refine And.intro (fun c => ?_) (fun c => ?_)
  · rw [if_neg (fun z => by rw [z.1] at c; exact absurd c (by decide))] at hK
    exact ⟨_, _, _, _, _, _, rfl, rfl, hK⟩
  · have c := bI_n0.mp c
    refine ⟨t, rfl, rfl, And.intro (fun c2 => ?_) (fun c2 => ?_)⟩
    · have c2 : thB t = true := bI_n0.mp c2
      rw [if_pos ⟨c, c2⟩] at hK
      obtain ⟨t, rfl, ht⟩ := inI (n := 9) (by omega) (of_decide_eq_true c2)
      have hv : vp_in (nI t) 9 := vp_in_nI (by omega) (by omega)
      exact ⟨Y, rfl, rfl, ho, fun c2 br hbr => ⟨hv, _, _, _, _, _, _, rfl, rfl, hK.1 c2 br hbr⟩, fun c2 => ⟨hv, _, _, _, _, _, _, rfl, rfl, hK.2 c2⟩⟩
    · have c2 : thB t = false := bI_0.mp c2
      rw [if_neg (fun z => by rw [c2] at z; exact absurd z.2 (by decide))] at hK
      exact ⟨_, _, _, _, _, _, rfl, rfl, hK⟩
def tX11_contract : List q_I := [(0, .aload_n 0, 1, 0, 0), (1, .getfield 35, 3, 0, 0), (4, .iload_n 1, 1, 0, 0), (5, .invokevirtual 162, 3, 0, 0), (8, .ifCond .ne 9, 3, 0, 17), (11, .aload_n 0, 1, 0, 0), (12, .iconst 1, 1, 1, 0), (13, .invokevirtual 84, 3, 0, 0), (16, .ireturn, 1, 0, 0), (17, .iload_n 2, 1, 0, 0), (18, .iconst 1, 1, 1, 0), (19, .if_icmp .lt 10, 3, 0, 29), (22, .iload_n 2, 1, 0, 0), (23, .sipush 999, 3, 999, 0), (26, .if_icmp .le 9, 3, 0, 35), (29, .aload_n 0, 1, 0, 0), (30, .iconst 2, 1, 2, 0), (31, .invokevirtual 84, 3, 0, 0), (34, .ireturn, 1, 0, 0), (35, .aload_n 0, 1, 0, 0), (36, .getfield 72, 3, 0, 0), (39, .getfield 305, 3, 0, 0), (42, .bipush 10, 2, 10, 0), (44, .if_icmp .lt 9, 3, 0, 53), (47, .aload_n 0, 1, 0, 0), (48, .iconst 3, 1, 3, 0), (49, .invokevirtual 84, 3, 0, 0), (52, .ireturn, 1, 0, 0), (53, .aload_n 0, 1, 0, 0), (54, .aload_n 0, 1, 0, 0), (55, .getfield 72, 3, 0, 0), (58, .iload_n 1, 1, 0, 0), (59, .iload_n 2, 1, 0, 0), (60, .invokevirtual 306, 3, 0, 0), (63, .invokevirtual 113, 3, 0, 0), (66, .ireturn, 1, 0, 0)]
theorem tX11_contract_ok : (tX11_contract.all (q_okI cX11_contract)) = true := by decide +kernel

abbrev fdX11_contract : List (Nat ⊕ (Nat × Nat)) := [.inl 0, .inr (0, 0), .inr (0, 2), .inr (2, 0), .inr (2, 1), .inr (2, 2), .inr (2, 3), .inr (2, 5), .inr (7, 0), .inr (7, 1), .inr (7, 2), .inr (7, 3), .inr (7, 4), .inr (7, 5), .inr (7, 6), .inr (2, 6), .inr (15, 0), .inr (15, 1), .inr (15, 2), .inr (15, 3), .inr (15, 4), .inr (15, 5), .inr (15, 6), .inr (2, 7), .inr (23, 0), .inr (23, 1), .inr (23, 2), .inr (23, 3), .inr (23, 4), .inr (23, 5), .inr (23, 6), .inr (23, 7), .inr (0, 3), .inr (32, 0), .inr (32, 1), .inr (32, 2), .inr (32, 3), .inr (32, 5), .inr (37, 0), .inr (37, 1), .inr (37, 2), .inr (37, 3), .inr (37, 4), .inr (37, 5), .inr (37, 6), .inr (32, 6), .inr (45, 0), .inr (45, 1), .inr (45, 2), .inr (45, 3), .inr (45, 4), .inr (45, 5), .inr (45, 6), .inr (32, 7), .inr (53, 0), .inr (53, 1), .inr (53, 2), .inr (53, 3), .inr (53, 4), .inr (53, 5), .inr (53, 6), .inr (53, 7), .inr (0, 4), .inr (62, 2), .inr (0, 7), .inr (64, 0), .inr (64, 1), .inr (64, 2), .inr (64, 3), .inr (64, 4), .inr (64, 5), .inr (0, 8), .inr (71, 1), .inr (71, 2), .inr (71, 3), .inr (71, 4), .inr (71, 5), .inr (71, 6), .inr (0, 9), .inr (78, 0), .inr (78, 1), .inr (78, 2), .inr (78, 3), .inr (78, 4), .inr (0, 10), .inr (84, 0), .inr (84, 1), .inr (84, 2), .inr (84, 3), .inr (84, 4), .inr (84, 5), .inr (84, 6), .inr (0, 11), .inr (92, 0), .inr (92, 1), .inr (92, 2), .inr (92, 3), .inr (92, 4), .inr (92, 5), .inr (0, 12), .inr (99, 0), .inr (99, 1), .inr (99, 2)]
def spX11_contract : q_P := fun a w K => ∃ (tl : Nat) (hb : Bool) (td : Int32) (tr : Int32) (lf : Int32) (tx : Nat → Int32) (rb : Value) (N : NT) (B : BT) (R : RT) (L : LT) (G : GT) (B2 : BT) (R2 : RT) (L2 : LT) (G2 : GT) (P : PT) (W : WT) (S : ST) (Cc : CT) (Y : YT) (D : DT) (p x : Int32), w = (stripW 0 tl hb td tr lf tx rb N B R L G B2 R2 L2 G2 P W S Cc Y D) ∧ a = [.ref 0, .int p, .int x] ∧ D.2.2.2 ≤ 10 ∧ (if perB P p = true then (if x < 1 ∨ 999 < x then K (.inl (some (.int (-1)))) (stripW 0 tl hb td (2) lf tx rb N B R L G B2 R2 L2 G2 P W S Cc Y D) else (if D.2.2.2 < 10 then K (.inl (some (.int (nI D.2.2.2)))) (stripW 0 tl hb td (0) lf tx rb N B R L G B2 R2 L2 G2 P W S Cc Y ((upd D.1 D.2.2.2 p, upd D.2.1 D.2.2.2 x, D.2.2.1, D.2.2.2 + 1))) else K (.inl (some (.int (-1)))) (stripW 0 tl hb td (3) lf tx rb N B R L G B2 R2 L2 G2 P W S Cc Y D))) else K (.inl (some (.int (-1)))) (stripW 0 tl hb td (1) lf tx rb N B R L G B2 R2 L2 G2 P W S Cc Y D))
abbrev csX11_contract : q_S := (3, 11, 1, 3, 0, 0, fdX11_contract, spX11_contract)
theorem coX11_306 (l : Launch) : q_CO l RX11 306 csX4_add := ⟨yX4_add, cX4_add, (some .int), 2, ⟨by decide +kernel, by decide +kernel, by decide +kernel⟩, q_G_i 16 (by decide +kernel) rfl, Or.inl ⟨by decide, rfl, rfl, q_G_i 1127 (by decide +kernel) rfl, q_G_i 1128 (by decide +kernel) rfl, q_G_i 1129 (by decide +kernel) rfl, Or.inl ⟨q_G_i 1130 (by decide +kernel) rfl, ctX4_add l⟩⟩⟩
def EX11_contract : q_E := (tX11_contract, [], 3, flX11, [(162, csX6_has), (84, csX11_refuse), (306, csX4_add), (113, csX11_grant)], [], [], [], [], [], 1, 0, 0, (some .int), [], [], 0, 0)
theorem okX11_contract (l : Launch) : q_Eok l RX11 cX11_contract EX11_contract := ⟨tX11_contract_ok, flX11_ok, List.forall_mem_cons.mpr ⟨(coX11_162 l), List.forall_mem_cons.mpr ⟨(coX11_84 l), List.forall_mem_cons.mpr ⟨(coX11_306 l), List.forall_mem_cons.mpr ⟨(coX11_113 l), q_nil⟩⟩⟩⟩, q_nil, q_nil, q_nil, q_nil, q_nil, (fun h => absurd h (by decide))⟩
set_option maxRecDepth 100000 in
set_option maxHeartbeats 4000000 in
theorem ctX11_contract (l : Launch) : q_CT l yX11_contract (.code yX11_contract cX11_contract 3 (some .int)) 1 0 0 spX11_contract := by
  refine q_ct_of EX11_contract (by decide +kernel) (okX11_contract l) rfl rfl rfl rfl rfl q_nil (fun ci h => by cases h) rfl ?_
  intro a w K h
  obtain ⟨tl, hb, td, tr, lf, tx, rb, N, B, R, L, G, B2, R2, L2, G2, P, W, S, Cc, Y, D, p, x, rfl, rfl, hD, hK⟩ := h
  refine ⟨Nat.le_of_ble_eq_true rfl, fun C hC => hC _ _ _ _ _ _ ?_⟩
  refine ⟨P, p, rfl, rfl, And.intro (fun c => ?_) (fun c => ?_)⟩
  · have c : perB P p = true := bI_n0.mp c
    rw [if_pos c] at hK
    refine And.intro (fun c3 => ?_) (fun c3 => And.intro (fun c4 => ?_) (fun c4 => ?_))
    · rw [if_pos (Or.inl c3)] at hK
      exact ⟨_, _, _, _, _, _, rfl, rfl, hK⟩
    · rw [if_neg (fun z => z.elim c3 (Int32.not_lt.mpr c4))] at hK
      refine And.intro (fun c5 => ?_) (fun c5 => ?_)
      · have h9 : D.2.2.2 < 10 := by
          rcases Nat.lt_or_ge D.2.2.2 10 with z | z
          · exact z
          · exact absurd c5 (Int32.not_lt.mpr (nI_le (a := 10) z (by omega)))
        rw [if_pos h9] at hK
        exact ⟨D, p, x, rfl, rfl, h9, _, _, _, _, _, _, rfl, rfl, hK⟩
      · rw [if_neg (c := D.2.2.2 < 10) (fun z => c5 (nI_lt (b := 10) z (by omega)))] at hK
        exact ⟨_, _, _, _, _, _, rfl, rfl, hK⟩
    · rw [if_pos (Or.inr (Int32.not_le.mp c4))] at hK
      exact ⟨_, _, _, _, _, _, rfl, rfl, hK⟩
  · have c : perB P p = false := bI_0.mp c
    rw [c] at hK
    exact ⟨_, _, _, _, _, _, rfl, rfl, hK⟩
def conB (D : DT) (x : Int32) : Bool := decide (0 ≤ x ∧ x < nI D.2.2.2)
def dNm (D : DT) (n : Nat) : Prop := D.2.2.2 ≤ 10 ∧ ∀ i, i < D.2.2.2 → ∃ p, D.1 i = nI p ∧ p < n
def debF (D : DT) (i : Nat) (u : Int32) : Int64 := D.2.2.1 (D.1 i).toNatClampNeg + (D.2.1 i).toInt64 * u.toInt64
def tX11_burn : List q_I := [(0, .aload_n 0, 1, 0, 0), (1, .getfield 72, 3, 0, 0), (4, .iload_n 1, 1, 0, 0), (5, .invokevirtual 308, 3, 0, 0), (8, .ifCond .ne 10, 3, 0, 18), (11, .aload_n 0, 1, 0, 0), (12, .iconst 1, 1, 1, 0), (13, .invokevirtual 84, 3, 0, 0), (16, .i2l, 1, 0, 0), (17, .lreturn, 1, 0, 0), (18, .iload_n 2, 1, 0, 0), (19, .iconst 1, 1, 1, 0), (20, .if_icmp .lt 10, 3, 0, 30), (23, .iload_n 2, 1, 0, 0), (24, .sipush 1000, 3, 1000, 0), (27, .if_icmp .le 10, 3, 0, 37), (30, .aload_n 0, 1, 0, 0), (31, .iconst 2, 1, 2, 0), (32, .invokevirtual 84, 3, 0, 0), (35, .i2l, 1, 0, 0), (36, .lreturn, 1, 0, 0), (37, .aload_n 0, 1, 0, 0), (38, .iconst 0, 1, 0, 0), (39, .putfield 128, 3, 0, 0), (42, .aload_n 0, 1, 0, 0), (43, .getfield 72, 3, 0, 0), (46, .iload_n 1, 1, 0, 0), (47, .iload_n 2, 1, 0, 0), (48, .invokevirtual 309, 3, 0, 0), (51, .lreturn, 1, 0, 0)]
theorem tX11_burn_ok : (tX11_burn.all (q_okI cX11_burn)) = true := by decide +kernel

abbrev fdX11_burn : List (Nat ⊕ (Nat × Nat)) := [.inl 0, .inr (0, 0), .inr (0, 2), .inr (2, 0), .inr (2, 1), .inr (2, 2), .inr (2, 3), .inr (2, 5), .inr (7, 0), .inr (7, 1), .inr (7, 2), .inr (7, 3), .inr (7, 4), .inr (7, 5), .inr (7, 6), .inr (2, 6), .inr (15, 0), .inr (15, 1), .inr (15, 2), .inr (15, 3), .inr (15, 4), .inr (15, 5), .inr (15, 6), .inr (2, 7), .inr (23, 0), .inr (23, 1), .inr (23, 2), .inr (23, 3), .inr (23, 4), .inr (23, 5), .inr (23, 6), .inr (23, 7), .inr (0, 3), .inr (32, 0), .inr (32, 1), .inr (32, 2), .inr (32, 3), .inr (32, 5), .inr (37, 0), .inr (37, 1), .inr (37, 2), .inr (37, 3), .inr (37, 4), .inr (37, 5), .inr (37, 6), .inr (32, 6), .inr (45, 0), .inr (45, 1), .inr (45, 2), .inr (45, 3), .inr (45, 4), .inr (45, 5), .inr (45, 6), .inr (32, 7), .inr (53, 0), .inr (53, 1), .inr (53, 2), .inr (53, 3), .inr (53, 4), .inr (53, 5), .inr (53, 6), .inr (53, 7), .inr (0, 4), .inr (62, 2), .inr (0, 7), .inr (64, 0), .inr (64, 1), .inr (64, 2), .inr (64, 3), .inr (64, 4), .inr (64, 5), .inr (0, 8), .inr (71, 1), .inr (71, 2), .inr (71, 3), .inr (71, 4), .inr (71, 5), .inr (71, 6), .inr (0, 9), .inr (78, 0), .inr (78, 1), .inr (78, 2), .inr (78, 3), .inr (78, 4), .inr (0, 10), .inr (84, 0), .inr (84, 1), .inr (84, 2), .inr (84, 3), .inr (84, 4), .inr (84, 5), .inr (84, 6), .inr (0, 11), .inr (92, 0), .inr (92, 1), .inr (92, 2), .inr (92, 3), .inr (92, 4), .inr (92, 5), .inr (0, 12), .inr (99, 0), .inr (99, 1), .inr (99, 2)]
def spX11_burn : q_P := fun a w K => ∃ (tl : Nat) (hb : Bool) (td : Int32) (tr : Int32) (lf : Int32) (tx : Nat → Int32) (rb : Value) (N : NT) (B : BT) (R : RT) (L : LT) (G : GT) (B2 : BT) (R2 : RT) (L2 : LT) (G2 : GT) (P : PT) (W : WT) (S : ST) (Cc : CT) (Y : YT) (D : DT) (i u : Int32), w = (stripW 0 tl hb td tr lf tx rb N B R L G B2 R2 L2 G2 P W S Cc Y D) ∧ a = [.ref 0, .int i, .int u] ∧ dNm D 30 ∧ (if conB D i = true then (if u < 1 ∨ 1000 < u then K (.inl (some (.long (-1)))) (stripW 0 tl hb td (2) lf tx rb N B R L G B2 R2 L2 G2 P W S Cc Y D) else K (.inl (some (.long (debF D i.toNatClampNeg u)))) (stripW 0 tl hb td (0) lf tx rb N B R L G B2 R2 L2 G2 P W S Cc Y ((D.1, D.2.1, vp_updL D.2.2.1 (D.1 i.toNatClampNeg).toNatClampNeg (debF D i.toNatClampNeg u), D.2.2.2)))) else K (.inl (some (.long (-1)))) (stripW 0 tl hb td (1) lf tx rb N B R L G B2 R2 L2 G2 P W S Cc Y D))
abbrev csX11_burn : q_S := (3, 11, 1, 3, 0, 0, fdX11_burn, spX11_burn)
theorem coX11_308 (l : Launch) : q_CO l RX11 308 csX4_has := ⟨yX4_has, cX4_has, (some .boolean), 1, ⟨by decide +kernel, by decide +kernel, by decide +kernel⟩, q_G_i 16 (by decide +kernel) rfl, Or.inl ⟨by decide, rfl, rfl, q_G_i 1135 (by decide +kernel) rfl, q_G_i 1136 (by decide +kernel) rfl, q_G_i 1137 (by decide +kernel) rfl, Or.inl ⟨q_G_i 1138 (by decide +kernel) rfl, ctX4_has l⟩⟩⟩
theorem coX11_309 (l : Launch) : q_CO l RX11 309 csX4_charge := ⟨yX4_charge, cX4_charge, (some .long), 2, ⟨by decide +kernel, by decide +kernel, by decide +kernel⟩, q_G_i 16 (by decide +kernel) rfl, Or.inl ⟨by decide, rfl, rfl, q_G_i 1139 (by decide +kernel) rfl, q_G_i 1140 (by decide +kernel) rfl, q_G_i 1141 (by decide +kernel) rfl, Or.inl ⟨q_G_i 1142 (by decide +kernel) rfl, ctX4_charge l⟩⟩⟩
def EX11_burn : q_E := (tX11_burn, [], 3, flX11, [(308, csX4_has), (84, csX11_refuse), (309, csX4_charge)], [], [], [], [], [], 1, 0, 0, (some .long), [], [], 0, 0)
theorem okX11_burn (l : Launch) : q_Eok l RX11 cX11_burn EX11_burn := ⟨tX11_burn_ok, flX11_ok, List.forall_mem_cons.mpr ⟨(coX11_308 l), List.forall_mem_cons.mpr ⟨(coX11_84 l), List.forall_mem_cons.mpr ⟨(coX11_309 l), q_nil⟩⟩⟩, q_nil, q_nil, q_nil, q_nil, q_nil, (fun h => absurd h (by decide))⟩
set_option maxRecDepth 100000 in
set_option maxHeartbeats 4000000 in
theorem ctX11_burn (l : Launch) : q_CT l yX11_burn (.code yX11_burn cX11_burn 3 (some .long)) 1 0 0 spX11_burn := by
  refine q_ct_of EX11_burn (by decide +kernel) (okX11_burn l) rfl rfl rfl rfl rfl q_nil (fun ci h => by cases h) rfl ?_
  intro a w K h
  obtain ⟨tl, hb, td, tr, lf, tx, rb, N, B, R, L, G, B2, R2, L2, G2, P, W, S, Cc, Y, D, i, u, rfl, rfl, hD, hK⟩ := h
  refine ⟨Nat.le_of_ble_eq_true rfl, fun C hC => hC _ _ _ _ _ _ ?_⟩
  refine ⟨D, i, rfl, rfl, And.intro (fun c => ?_) (fun c => ?_)⟩
  · have c : conB D i = true := bI_n0.mp c
    rw [if_pos c] at hK
    refine And.intro (fun c3 => ?_) (fun c3 => And.intro (fun c4 => ?_) (fun c4 => ?_))
    · rw [if_pos (Or.inl c3)] at hK
      exact ⟨_, _, _, _, _, _, rfl, rfl, hK⟩
    · rw [if_neg (fun z => z.elim c3 (Int32.not_lt.mpr c4))] at hK
      obtain ⟨i, rfl, hi⟩ := inI (by have := hD.1; omega) (of_decide_eq_true c)
      obtain ⟨q, hq, hqn⟩ := hD.2 i hi
      rw [nI_clamp (by have := hD.1; omega), debF, hq, nI_clamp (by omega)] at hK
      exact ⟨D, i, q, u, rfl, rfl, by have := hD.1; omega, hq, hqn, hK⟩
    · rw [if_pos (Or.inr (Int32.not_le.mp c4))] at hK
      exact ⟨_, _, _, _, _, _, rfl, rfl, hK⟩
  · have c : conB D i = false := bI_0.mp c
    rw [c] at hK
    exact ⟨_, _, _, _, _, _, rfl, rfl, hK⟩
def tX11_rename : List q_I := [(0, .aload_n 0, 1, 0, 0), (1, .getfield 72, 3, 0, 0), (4, .iload_n 1, 1, 0, 0), (5, .invokevirtual 308, 3, 0, 0), (8, .ifCond .eq 14, 3, 0, 22), (11, .aload_n 0, 1, 0, 0), (12, .getfield 35, 3, 0, 0), (15, .iload_n 2, 1, 0, 0), (16, .invokevirtual 162, 3, 0, 0), (19, .ifCond .ne 9, 3, 0, 28), (22, .aload_n 0, 1, 0, 0), (23, .iconst 1, 1, 1, 0), (24, .invokevirtual 190, 3, 0, 0), (27, .ireturn, 1, 0, 0), (28, .aload_n 0, 1, 0, 0), (29, .getfield 72, 3, 0, 0), (32, .getfield 313, 3, 0, 0), (35, .iload_n 1, 1, 0, 0), (36, .iaload, 1, 0, 0), (37, .iload_n 2, 1, 0, 0), (38, .if_icmp .ne 9, 3, 0, 47), (41, .aload_n 0, 1, 0, 0), (42, .iconst 5, 1, 5, 0), (43, .invokevirtual 190, 3, 0, 0), (46, .ireturn, 1, 0, 0), (47, .aload_n 0, 1, 0, 0), (48, .getfield 72, 3, 0, 0), (51, .getfield 313, 3, 0, 0), (54, .iload_n 1, 1, 0, 0), (55, .iload_n 2, 1, 0, 0), (56, .iastore, 1, 0, 0), (57, .aload_n 0, 1, 0, 0), (58, .iconst 0, 1, 0, 0), (59, .putfield 128, 3, 0, 0), (62, .iconst 1, 1, 1, 0), (63, .ireturn, 1, 0, 0)]
theorem tX11_rename_ok : (tX11_rename.all (q_okI cX11_rename)) = true := by decide +kernel

abbrev fdX11_rename : List (Nat ⊕ (Nat × Nat)) := [.inl 0, .inr (0, 0), .inr (0, 2), .inr (2, 0), .inr (2, 1), .inr (2, 2), .inr (2, 3), .inr (2, 5), .inr (7, 0), .inr (7, 1), .inr (7, 2), .inr (7, 3), .inr (7, 4), .inr (7, 5), .inr (7, 6), .inr (2, 6), .inr (15, 0), .inr (15, 1), .inr (15, 2), .inr (15, 3), .inr (15, 4), .inr (15, 5), .inr (15, 6), .inr (2, 7), .inr (23, 0), .inr (23, 1), .inr (23, 2), .inr (23, 3), .inr (23, 4), .inr (23, 5), .inr (23, 6), .inr (23, 7), .inr (0, 3), .inr (32, 0), .inr (32, 1), .inr (32, 2), .inr (32, 3), .inr (32, 5), .inr (37, 0), .inr (37, 1), .inr (37, 2), .inr (37, 3), .inr (37, 4), .inr (37, 5), .inr (37, 6), .inr (32, 6), .inr (45, 0), .inr (45, 1), .inr (45, 2), .inr (45, 3), .inr (45, 4), .inr (45, 5), .inr (45, 6), .inr (32, 7), .inr (53, 0), .inr (53, 1), .inr (53, 2), .inr (53, 3), .inr (53, 4), .inr (53, 5), .inr (53, 6), .inr (53, 7), .inr (0, 4), .inr (62, 2), .inr (0, 7), .inr (64, 0), .inr (64, 1), .inr (64, 2), .inr (64, 3), .inr (64, 4), .inr (64, 5), .inr (0, 8), .inr (71, 1), .inr (71, 2), .inr (71, 3), .inr (71, 4), .inr (71, 5), .inr (71, 6), .inr (0, 9), .inr (78, 0), .inr (78, 1), .inr (78, 2), .inr (78, 3), .inr (78, 4), .inr (0, 10), .inr (84, 0), .inr (84, 1), .inr (84, 2), .inr (84, 3), .inr (84, 4), .inr (84, 5), .inr (84, 6), .inr (0, 11), .inr (92, 0), .inr (92, 1), .inr (92, 2), .inr (92, 3), .inr (92, 4), .inr (92, 5), .inr (0, 12), .inr (99, 0), .inr (99, 1), .inr (99, 2)]
def spX11_rename : q_P := fun a w K => ∃ (tl : Nat) (hb : Bool) (td : Int32) (tr : Int32) (lf : Int32) (tx : Nat → Int32) (rb : Value) (N : NT) (B : BT) (R : RT) (L : LT) (G : GT) (B2 : BT) (R2 : RT) (L2 : LT) (G2 : GT) (P : PT) (W : WT) (S : ST) (Cc : CT) (Y : YT) (D : DT) (i p : Int32), w = (stripW 0 tl hb td tr lf tx rb N B R L G B2 R2 L2 G2 P W S Cc Y D) ∧ a = [.ref 0, .int i, .int p] ∧ D.2.2.2 ≤ 10 ∧ (if (conB D i && perB P p) = true then (if D.1 i.toNatClampNeg = p then K (.inl (some (.int 0))) (stripW 0 tl hb td (5) lf tx rb N B R L G B2 R2 L2 G2 P W S Cc Y D) else K (.inl (some (.int 1))) (stripW 0 tl hb td (0) lf tx rb N B R L G B2 R2 L2 G2 P W S Cc Y ((upd D.1 i.toNatClampNeg p, D.2)))) else K (.inl (some (.int 0))) (stripW 0 tl hb td (1) lf tx rb N B R L G B2 R2 L2 G2 P W S Cc Y D))
abbrev csX11_rename : q_S := (3, 11, 1, 3, 0, 0, fdX11_rename, spX11_rename)
def EX11_rename : q_E := (tX11_rename, [], 3, flX11, [(308, csX4_has), (162, csX6_has), (190, csX11_decline)], [], [], [], [], [], 1, 0, 0, (some .boolean), [], [], 0, 0)
theorem okX11_rename (l : Launch) : q_Eok l RX11 cX11_rename EX11_rename := ⟨tX11_rename_ok, flX11_ok, List.forall_mem_cons.mpr ⟨(coX11_308 l), List.forall_mem_cons.mpr ⟨(coX11_162 l), List.forall_mem_cons.mpr ⟨(coX11_190 l), q_nil⟩⟩⟩, q_nil, q_nil, q_nil, q_nil, q_nil, (fun h => absurd h (by decide))⟩
set_option maxRecDepth 100000 in
set_option maxHeartbeats 4000000 in
theorem ctX11_rename (l : Launch) : q_CT l yX11_rename (.code yX11_rename cX11_rename 3 (some .boolean)) 1 0 0 spX11_rename := by
  refine q_ct_of EX11_rename (by decide +kernel) (okX11_rename l) rfl rfl rfl rfl rfl q_nil (fun ci h => by cases h) rfl ?_
  intro a w K h
  obtain ⟨tl, hb, td, tr, lf, tx, rb, N, B, R, L, G, B2, R2, L2, G2, P, W, S, Cc, Y, D, i, p, rfl, rfl, hD, hK⟩ := h
  refine ⟨Nat.le_of_ble_eq_true rfl, fun C hC => hC _ _ _ _ _ _ ?_⟩
  refine ⟨D, i, rfl, rfl, And.intro (fun c => ?_) (fun c => ?_)⟩
  · have c : conB D i = false := bI_0.mp c
    rw [c] at hK
    exact ⟨_, _, _, _, _, _, rfl, rfl, rfl, hK⟩
  · have c : conB D i = true := bI_n0.mp c
    rw [c, Bool.true_and] at hK
    refine ⟨P, p, rfl, rfl, And.intro (fun c2 => ?_) (fun c2 => ?_)⟩
    · have c2 : perB P p = true := bI_n0.mp c2
      rw [if_pos c2] at hK
      obtain ⟨i, rfl, hi⟩ := inI (by omega) (of_decide_eq_true c)
      have hv : vp_in (nI i) 10 := vp_in_nI (by omega) (by omega)
      refine ⟨hv, And.intro (fun c3 => ?_) (fun c3 => ?_)⟩
      · rw [if_neg c3] at hK
        exact ⟨hv, rfl, hK⟩
      · rw [if_pos c3] at hK
        exact ⟨_, _, _, _, _, _, rfl, rfl, rfl, hK⟩
    · have c2 : perB P p = false := bI_0.mp c2
      rw [c2] at hK
      exact ⟨_, _, _, _, _, _, rfl, rfl, rfl, hK⟩
def tX11_owed : List q_I := [(0, .aload_n 0, 1, 0, 0), (1, .getfield 35, 3, 0, 0), (4, .iload_n 1, 1, 0, 0), (5, .invokevirtual 162, 3, 0, 0), (8, .ifCond .eq 15, 3, 0, 23), (11, .aload_n 0, 1, 0, 0), (12, .getfield 72, 3, 0, 0), (15, .getfield 316, 3, 0, 0), (18, .iload_n 1, 1, 0, 0), (19, .laload, 1, 0, 0), (20, .goto 6, 3, 0, 26), (23, .ldc2_w 320, 3, 0, 0), (26, .lreturn, 1, 0, 0)]
theorem tX11_owed_ok : (tX11_owed.all (q_okI cX11_owed)) = true := by decide +kernel

abbrev fdX11_owed : List (Nat ⊕ (Nat × Nat)) := [.inl 0, .inr (0, 0), .inr (0, 2), .inr (2, 0), .inr (2, 1), .inr (2, 2), .inr (2, 3), .inr (2, 5), .inr (7, 0), .inr (7, 1), .inr (7, 2), .inr (7, 3), .inr (7, 4), .inr (7, 5), .inr (7, 6), .inr (2, 6), .inr (15, 0), .inr (15, 1), .inr (15, 2), .inr (15, 3), .inr (15, 4), .inr (15, 5), .inr (15, 6), .inr (2, 7), .inr (23, 0), .inr (23, 1), .inr (23, 2), .inr (23, 3), .inr (23, 4), .inr (23, 5), .inr (23, 6), .inr (23, 7), .inr (0, 3), .inr (32, 0), .inr (32, 1), .inr (32, 2), .inr (32, 3), .inr (32, 5), .inr (37, 0), .inr (37, 1), .inr (37, 2), .inr (37, 3), .inr (37, 4), .inr (37, 5), .inr (37, 6), .inr (32, 6), .inr (45, 0), .inr (45, 1), .inr (45, 2), .inr (45, 3), .inr (45, 4), .inr (45, 5), .inr (45, 6), .inr (32, 7), .inr (53, 0), .inr (53, 1), .inr (53, 2), .inr (53, 3), .inr (53, 4), .inr (53, 5), .inr (53, 6), .inr (53, 7), .inr (0, 4), .inr (62, 2), .inr (0, 7), .inr (64, 0), .inr (64, 1), .inr (64, 2), .inr (64, 3), .inr (64, 4), .inr (64, 5), .inr (0, 8), .inr (71, 1), .inr (71, 2), .inr (71, 3), .inr (71, 4), .inr (71, 5), .inr (71, 6), .inr (0, 9), .inr (78, 0), .inr (78, 1), .inr (78, 2), .inr (78, 3), .inr (78, 4), .inr (0, 10), .inr (84, 0), .inr (84, 1), .inr (84, 2), .inr (84, 3), .inr (84, 4), .inr (84, 5), .inr (84, 6), .inr (0, 11), .inr (92, 0), .inr (92, 1), .inr (92, 2), .inr (92, 3), .inr (92, 4), .inr (92, 5), .inr (0, 12), .inr (99, 0), .inr (99, 1), .inr (99, 2)]
def spX11_owed : q_P := fun a w K => ∃ (tl : Nat) (hb : Bool) (td : Int32) (tr : Int32) (lf : Int32) (tx : Nat → Int32) (rb : Value) (N : NT) (B : BT) (R : RT) (L : LT) (G : GT) (B2 : BT) (R2 : RT) (L2 : LT) (G2 : GT) (P : PT) (W : WT) (S : ST) (Cc : CT) (Y : YT) (D : DT) (p : Int32), w = (stripW 0 tl hb td tr lf tx rb N B R L G B2 R2 L2 G2 P W S Cc Y D) ∧ a = [.ref 0, .int p] ∧ pOk P ∧ K (.inl (some (.long (if perB P p = true then D.2.2.1 p.toNatClampNeg else -1)))) (stripW 0 tl hb td tr lf tx rb N B R L G B2 R2 L2 G2 P W S Cc Y D)
abbrev csX11_owed : q_S := (2, 11, 1, 2, 0, 0, fdX11_owed, spX11_owed)
def EX11_owed : q_E := (tX11_owed, [], 2, flX11, [(162, csX6_has)], [(320, -1)], [], [], [], [], 1, 0, 0, (some .long), [], [], 0, 0)
theorem okX11_owed (l : Launch) : q_Eok l RX11 cX11_owed EX11_owed := ⟨tX11_owed_ok, flX11_ok, List.forall_mem_cons.mpr ⟨(coX11_162 l), q_nil⟩, List.forall_mem_cons.mpr ⟨q_G_i 1151 (by decide +kernel) rfl, q_nil⟩, q_nil, q_nil, q_nil, q_nil, (fun h => absurd h (by decide))⟩
set_option maxRecDepth 100000 in
set_option maxHeartbeats 4000000 in
theorem ctX11_owed (l : Launch) : q_CT l yX11_owed (.code yX11_owed cX11_owed 2 (some .long)) 1 0 0 spX11_owed := by
  refine q_ct_of EX11_owed (by decide +kernel) (okX11_owed l) rfl rfl rfl rfl rfl q_nil (fun ci h => by cases h) rfl ?_
  intro a w K h
  obtain ⟨tl, hb, td, tr, lf, tx, rb, N, B, R, L, G, B2, R2, L2, G2, P, W, S, Cc, Y, D, p, rfl, rfl, ho, hK⟩ := h
  refine ⟨Nat.le_of_ble_eq_true rfl, fun C hC => hC _ _ _ _ _ _ ?_⟩
  refine ⟨P, p, rfl, rfl, And.intro (fun c => ?_) (fun c => ?_)⟩
  · have c : perB P p = false := bI_0.mp c
    rw [c] at hK
    exact hK
  · have c : perB P p = true := bI_n0.mp c
    rw [c, if_pos rfl] at hK
    obtain ⟨p, rfl, hp, hcp⟩ := perI ho c
    exact ⟨vp_in_nI (by have := ho.1; omega) (by omega), hK⟩
