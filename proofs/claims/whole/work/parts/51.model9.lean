
def tX14_judge : List q_I := [(0, .aload_n 0, 1, 0, 0), (1, .iconst 0, 1, 0, 0), (2, .putfield 123, 3, 0, 0), (5, .aload_n 0, 1, 0, 0), (6, .iconst 3, 1, 3, 0), (7, .iload_n 1, 1, 0, 0), (8, .invokevirtual 407, 3, 0, 0), (11, .ifCond .eq 20, 3, 0, 31), (14, .aload_n 0, 1, 0, 0), (15, .iconst 2, 1, 2, 0), (16, .iload_n 2, 1, 0, 0), (17, .invokevirtual 407, 3, 0, 0), (20, .ifCond .eq 11, 3, 0, 31), (23, .aload_n 0, 1, 0, 0), (24, .iload_n 3, 1, 0, 0), (25, .invokevirtual 417, 3, 0, 0), (28, .ifCond .ne 9, 3, 0, 37), (31, .aload_n 0, 1, 0, 0), (32, .iconst 1, 1, 1, 0), (33, .invokevirtual 365, 3, 0, 0), (36, .ireturn, 1, 0, 0), (37, .iload 4, 2, 0, 0), (39, .iconst 0, 1, 0, 0), (40, .bipush 9, 2, 9, 0), (42, .invokestatic 207, 3, 0, 0), (45, .ifCond .eq 14, 3, 0, 59), (48, .iload 5, 2, 0, 0), (50, .iconst 0, 1, 0, 0), (51, .bipush 99, 2, 99, 0), (53, .invokestatic 207, 3, 0, 0), (56, .ifCond .ne 9, 3, 0, 65), (59, .aload_n 0, 1, 0, 0), (60, .iconst 2, 1, 2, 0), (61, .invokevirtual 365, 3, 0, 0), (64, .ireturn, 1, 0, 0), (65, .aload_n 0, 1, 0, 0), (66, .getfield 388, 3, 0, 0), (69, .bipush 20, 2, 20, 0), (71, .if_icmp .ne 9, 3, 0, 80), (74, .aload_n 0, 1, 0, 0), (75, .iconst 3, 1, 3, 0), (76, .invokevirtual 365, 3, 0, 0), (79, .ireturn, 1, 0, 0), (80, .aload_n 0, 1, 0, 0), (81, .getfield 78, 3, 0, 0), (84, .aload_n 0, 1, 0, 0), (85, .getfield 388, 3, 0, 0), (88, .iload_n 1, 1, 0, 0), (89, .iastore, 1, 0, 0), (90, .aload_n 0, 1, 0, 0), (91, .getfield 81, 3, 0, 0), (94, .aload_n 0, 1, 0, 0), (95, .getfield 388, 3, 0, 0), (98, .iload_n 2, 1, 0, 0), (99, .iastore, 1, 0, 0), (100, .aload_n 0, 1, 0, 0), (101, .getfield 84, 3, 0, 0), (104, .aload_n 0, 1, 0, 0), (105, .getfield 388, 3, 0, 0), (108, .iload_n 3, 1, 0, 0), (109, .iastore, 1, 0, 0), (110, .aload_n 0, 1, 0, 0), (111, .getfield 87, 3, 0, 0), (114, .aload_n 0, 1, 0, 0), (115, .getfield 388, 3, 0, 0), (118, .iload 4, 2, 0, 0), (120, .iastore, 1, 0, 0), (121, .aload_n 0, 1, 0, 0), (122, .getfield 90, 3, 0, 0), (125, .aload_n 0, 1, 0, 0), (126, .getfield 388, 3, 0, 0), (129, .iload 5, 2, 0, 0), (131, .iastore, 1, 0, 0), (132, .aload_n 0, 1, 0, 0), (133, .getfield 93, 3, 0, 0), (136, .aload_n 0, 1, 0, 0), (137, .getfield 388, 3, 0, 0), (140, .aload_n 0, 1, 0, 0), (141, .getfield 243, 3, 0, 0), (144, .iastore, 1, 0, 0), (145, .aload_n 0, 1, 0, 0), (146, .dup, 1, 0, 0), (147, .getfield 388, 3, 0, 0), (150, .iconst 1, 1, 1, 0), (151, .iadd, 1, 0, 0), (152, .putfield 388, 3, 0, 0), (155, .aload_n 0, 1, 0, 0), (156, .aload_n 0, 1, 0, 0), (157, .getfield 388, 3, 0, 0), (160, .iconst 1, 1, 1, 0), (161, .isub, 1, 0, 0), (162, .invokevirtual 397, 3, 0, 0), (165, .ireturn, 1, 0, 0)]
theorem tX14_judge_ok : (tX14_judge.all (q_okI cX14_judge)) = true := by decide +kernel

abbrev fdX14_judge : List (Nat ⊕ (Nat × Nat)) := [.inl 0, .inr (0, 7), .inr (0, 17), .inr (0, 18), .inr (0, 19), .inr (0, 20), .inr (0, 21), .inr (0, 22), .inr (0, 23), .inr (0, 26), .inr (0, 27), .inr (0, 28), .inr (0, 31), .inr (0, 32), .inr (0, 33), .inr (0, 34), .inr (0, 36), .inr (0, 37), .inr (0, 38), .inr (0, 39), .inr (0, 40), .inr (0, 41), .inr (0, 43), .inr (0, 44), .inr (0, 45), .inr (0, 46), .inr (0, 47), .inr (0, 48), .inr (0, 50), .inr (0, 51), .inr (0, 52), .inr (0, 4), .inr (31, 0), .inr (31, 1), .inr (31, 2), .inr (31, 3), .inr (31, 8), .inr (31, 9), .inr (31, 10), .inr (31, 11), .inr (31, 12), .inr (31, 13), .inr (31, 14), .inr (31, 15), .inr (31, 16), .inr (31, 17), .inr (31, 18), .inr (31, 19), .inr (31, 20), .inr (31, 21), .inr (31, 22), .inr (31, 23), .inr (31, 24), .inr (31, 25), .inr (31, 26), .inr (31, 27), .inr (31, 28)]
def spX14_judge : q_P := fun a w K => ∃ (th : Int32) (tr : Int32) (wh : Int32) (fa : Int32) (ta : Nat) (sz : Int32) (ix : Int32) (so : Int32) (pl : Int32) (nu : Int32) (wd : Int64) (td : Int32) (mk : Int32) (mo : Int32) (tx : Nat → Int32) (P : PT) (D : DT) (ea : Nat → Int32) (pa : Nat → Int32) (co : Nat → Int32) (S : ST) (Cc : CT) (V : VT) (ba : Nat → Int32) (B : BT) (R : RT) (L : LT) (G : GT) (k o p m v : Int32), w = (modelW 0 (tk 0 5) (tk 0 6) th tr wh fa ta sz ix so pl nu wd td mk mo tx P D ea pa co S Cc V ba B R L G) ∧ a = [.ref 0, .int k, .int o, .int p, .int m, .int v] ∧ Cc.2.2.2.2.2.2.2 ≤ 20 ∧ (if (sortB B.1 k o && perB P p) = true then (if (matB m && valB v) = true then (if Cc.2.2.2.2.2.2.2 < 20 then K (.inl (some (.int (nI Cc.2.2.2.2.2.2.2)))) (modelW 0 (tk 0 5) (tk 0 6) (0) (0) (-1) fa ta sz ix so pl nu wd td mk mo tx P D ea pa co S (courtAdd Cc k o p m v td) V ba B R L G) else K (.inl (some (.int (-1)))) (modelW 0 (tk 0 5) (tk 0 6) (0) (3) (-1) fa ta sz ix so pl nu wd td mk mo tx P D ea pa co S Cc V ba B R L G)) else K (.inl (some (.int (-1)))) (modelW 0 (tk 0 5) (tk 0 6) (0) (2) (-1) fa ta sz ix so pl nu wd td mk mo tx P D ea pa co S Cc V ba B R L G)) else K (.inl (some (.int (-1)))) (modelW 0 (tk 0 5) (tk 0 6) (0) (1) (-1) fa ta sz ix so pl nu wd td mk mo tx P D ea pa co S Cc V ba B R L G))
abbrev csX14_judge : q_S := (6, 14, 1, 6, 0, 0, fdX14_judge, spX14_judge)
def EX14_judge : q_E := (tX14_judge, [], 6, flX14, [(407, csX14_isOf), (417, csX14_isPerson), (365, csX14_refused), (207, csX14_in), (397, csX14_done)], [], [], [], [], [], 1, 0, 0, (some .int), [], [], 0, 0)
theorem okX14_judge (l : Launch) : q_Eok l RX14 cX14_judge EX14_judge := ⟨tX14_judge_ok, flX14_ok, List.forall_mem_cons.mpr ⟨(coX14_407 l), List.forall_mem_cons.mpr ⟨(coX14_417 l), List.forall_mem_cons.mpr ⟨(coX14_365 l), List.forall_mem_cons.mpr ⟨(coX14_207 l), List.forall_mem_cons.mpr ⟨(coX14_397 l), q_nil⟩⟩⟩⟩⟩, q_nil, q_nil, q_nil, q_nil, q_nil, (fun h => absurd h (by decide))⟩
set_option maxRecDepth 100000 in
set_option maxHeartbeats 4000000 in
theorem ctX14_judge (l : Launch) : q_CT l yX14_judge (.code yX14_judge cX14_judge 6 (some .int)) 1 0 0 spX14_judge := by
  refine q_ct_of EX14_judge (by decide +kernel) (okX14_judge l) rfl rfl rfl rfl rfl q_nil (fun ci h => by cases h) rfl ?_
  intro a w K h
  obtain ⟨th, tr, wh, fa, ta, sz, ix, so, pl, nu, wd, td, mk, mo, tx, P, D, ea, pa, co, S, Cc, V, ba, B, R, L, G, k, o, p, m, v, rfl, rfl, hC0, hK⟩ := h
  refine ⟨Nat.le_of_ble_eq_true rfl, fun C hC => hC _ _ _ _ _ _ ?_⟩
  rw [sortB] at hK
  refine ⟨_, _, _, _, _, _, _, _, _, _, _, _, _, _, _, _, _, _, _, _, _, _, _, _, 3, k, rfl, rfl, by decide, And.intro (fun c1 => ?_) (fun c1 => ?_)⟩
  · rw [bI_0.mp c1] at hK
    exact ⟨_, _, _, _, _, _, _, _, _, _, _, _, _, _, _, _, _, _, _, _, _, _, _, _, rfl, rfl, hK⟩
  rw [bI_n0.mp c1, Bool.true_and] at hK
  refine ⟨_, _, _, _, _, _, _, _, _, _, _, _, _, _, _, _, _, _, _, _, _, _, _, _, 2, o, rfl, rfl, by decide, And.intro (fun c2 => ?_) (fun c2 => ?_)⟩
  · rw [bI_0.mp c2] at hK
    exact ⟨_, _, _, _, _, _, _, _, _, _, _, _, _, _, _, _, _, _, _, _, _, _, _, _, rfl, rfl, hK⟩
  rw [bI_n0.mp c2, Bool.true_and] at hK
  refine ⟨_, _, _, _, _, _, _, _, _, _, _, _, _, _, _, _, _, _, _, _, _, _, _, p, rfl, rfl, And.intro (fun c => ?_) (fun c => ?_)⟩
  rotate_left
  · have c : perB P p = false := bI_0.mp c
    rw [if_neg (by rw [c]; decide)] at hK
    exact ⟨_, _, _, _, _, _, _, _, _, _, _, _, _, _, _, _, _, _, _, _, _, _, _, _, rfl, rfl, hK⟩
  have c : perB P p = true := bI_n0.mp c
  rw [if_pos c] at hK
  refine ⟨m, 0, 9, rfl, rfl, And.intro (fun c3 => ?_) (fun c3 => ?_)⟩
  · have c3 : matB m = false := bI_0.mp c3
    rw [c3] at hK
    exact ⟨_, _, _, _, _, _, _, _, _, _, _, _, _, _, _, _, _, _, _, _, _, _, _, _, rfl, rfl, hK⟩
  have c3 : matB m = true := bI_n0.mp c3
  rw [c3, Bool.true_and] at hK
  refine ⟨v, 0, 99, rfl, rfl, And.intro (fun c4 => ?_) (fun c4 => ?_)⟩
  rotate_left
  · have c4 : valB v = false := bI_0.mp c4
    rw [if_neg (by rw [c4]; decide)] at hK
    exact ⟨_, _, _, _, _, _, _, _, _, _, _, _, _, _, _, _, _, _, _, _, _, _, _, _, rfl, rfl, hK⟩
  have c4 : valB v = true := bI_n0.mp c4
  rw [if_pos c4] at hK
  refine And.intro (fun c5 => ?_) (fun c5 => ?_)
  · have h9 : Cc.2.2.2.2.2.2.2 < 20 := by
      rcases Nat.lt_or_ge Cc.2.2.2.2.2.2.2 20 with z | z
      · exact z
      · exact absurd (show nI Cc.2.2.2.2.2.2.2 = nI 20 by rw [Nat.le_antisymm hC0 z]) c5
    rw [if_pos h9] at hK
    have hv : vp_in (nI Cc.2.2.2.2.2.2.2) 20 := vp_in_nI h9 (by omega)
    have hc : (nI Cc.2.2.2.2.2.2.2).toNatClampNeg = Cc.2.2.2.2.2.2.2 := nI_clamp (by omega)
    have hK : K (.inl (some (.int (nI (Cc.2.2.2.2.2.2.2 + 1) - 1)))) (modelW 0 (tk 0 5) (tk 0 6) (0) (0) (-1) fa ta sz ix so pl nu wd td mk mo tx P D ea pa co S (courtAdd Cc k o p m v td) V ba B R L G) := by rw [nI_pred]; exact hK
    refine ⟨hv, hv, hv, hv, hv, hv, _, _, _, _, _, _, _, _, _, _, _, _, _, _, _, _, _, _, _, _, _, _, _, _, rfl, rfl, ?_⟩
    rw [hc, nI_1]
    exact hK
  · rw [if_neg (c := Cc.2.2.2.2.2.2.2 < 20) (fun z => nI_ne (b := 20) (by omega) (by omega) (by omega) c5)] at hK
    exact ⟨_, _, _, _, _, _, _, _, _, _, _, _, _, _, _, _, _, _, _, _, _, _, _, _, rfl, rfl, hK⟩
def tX14_binding : List q_I := [(0, .aload_n 0, 1, 0, 0), (1, .getfield 388, 3, 0, 0), (4, .iconst 1, 1, 1, 0), (5, .isub, 1, 0, 0), (6, .istore 5, 2, 0, 0), (8, .iload 5, 2, 0, 0), (10, .ifCond .lt 87, 3, 0, 97), (13, .aload_n 0, 1, 0, 0), (14, .getfield 84, 3, 0, 0), (17, .iload 5, 2, 0, 0), (19, .iaload, 1, 0, 0), (20, .iload_n 1, 1, 0, 0), (21, .if_icmp .ne 30, 3, 0, 51), (24, .aload_n 0, 1, 0, 0), (25, .getfield 87, 3, 0, 0), (28, .iload 5, 2, 0, 0), (30, .iaload, 1, 0, 0), (31, .iload_n 2, 1, 0, 0), (32, .if_icmp .ne 19, 3, 0, 51), (35, .aload_n 0, 1, 0, 0), (36, .getfield 93, 3, 0, 0), (39, .iload 5, 2, 0, 0), (41, .iaload, 1, 0, 0), (42, .iload 4, 2, 0, 0), (44, .if_icmp .gt 7, 3, 0, 51), (47, .iconst 1, 1, 1, 0), (48, .goto 4, 3, 0, 52), (51, .iconst 0, 1, 0, 0), (52, .istore 6, 2, 0, 0), (54, .iload 6, 2, 0, 0), (56, .ifCond .eq 35, 3, 0, 91), (59, .aload_n 0, 1, 0, 0), (60, .iload_n 3, 1, 0, 0), (61, .aload_n 0, 1, 0, 0), (62, .getfield 78, 3, 0, 0), (65, .iload 5, 2, 0, 0), (67, .iaload, 1, 0, 0), (68, .aload_n 0, 1, 0, 0), (69, .getfield 81, 3, 0, 0), (72, .iload 5, 2, 0, 0), (74, .iaload, 1, 0, 0), (75, .iload 4, 2, 0, 0), (77, .invokevirtual 430, 3, 0, 0), (80, .ifCond .eq 11, 3, 0, 91), (83, .aload_n 0, 1, 0, 0), (84, .getfield 90, 3, 0, 0), (87, .iload 5, 2, 0, 0), (89, .iaload, 1, 0, 0), (90, .ireturn, 1, 0, 0), (91, .iinc 5 (-1), 3, (-1), 0), (94, .goto (-86), 3, 0, 8), (97, .bipush (-2), 2, (-2), 0), (99, .ireturn, 1, 0, 0)]
theorem tX14_binding_ok : (tX14_binding.all (q_okI cX14_binding)) = true := by decide +kernel

abbrev fdX14_binding : List (Nat ⊕ (Nat × Nat)) := [.inl 0, .inr (0, 7), .inr (0, 17), .inr (0, 18), .inr (0, 19), .inr (0, 20), .inr (0, 21), .inr (0, 22), .inr (0, 23), .inr (0, 26), .inr (0, 27), .inr (0, 28), .inr (0, 31), .inr (0, 32), .inr (0, 33), .inr (0, 34), .inr (0, 36), .inr (0, 37), .inr (0, 38), .inr (0, 39), .inr (0, 40), .inr (0, 41), .inr (0, 43), .inr (0, 44), .inr (0, 45), .inr (0, 46), .inr (0, 47), .inr (0, 48), .inr (0, 50), .inr (0, 51), .inr (0, 52), .inr (0, 4), .inr (31, 0), .inr (31, 1), .inr (31, 2), .inr (31, 3), .inr (31, 8), .inr (31, 9), .inr (31, 10), .inr (31, 11), .inr (31, 12), .inr (31, 13), .inr (31, 14), .inr (31, 15), .inr (31, 16), .inr (31, 17), .inr (31, 18), .inr (31, 19), .inr (31, 20), .inr (31, 21), .inr (31, 22), .inr (31, 23), .inr (31, 24), .inr (31, 25), .inr (31, 26), .inr (31, 27), .inr (31, 28)]
def spX14_binding : q_P := fun a w K => ∃ (th : Int32) (tr : Int32) (wh : Int32) (fa : Int32) (ta : Nat) (sz : Int32) (ix : Int32) (so : Int32) (pl : Int32) (nu : Int32) (wd : Int64) (td : Int32) (mk : Int32) (mo : Int32) (tx : Nat → Int32) (P : PT) (D : DT) (ea : Nat → Int32) (pa : Nat → Int32) (co : Nat → Int32) (S : ST) (Cc : CT) (V : VT) (ba : Nat → Int32) (B : BT) (R : RT) (L : LT) (G : GT) (on m ld d : Int32), w = (modelW 0 (tk 0 5) (tk 0 6) th tr wh fa ta sz ix so pl nu wd td mk mo tx P D ea pa co S Cc V ba B R L G) ∧ a = [.ref 0, .int on, .int m, .int ld, .int d] ∧ Cc.2.2.2.2.2.2.2 ≤ 20 ∧ L_n L ≤ 24 ∧ K (.inl (some (.int (bndV Cc L on m ld d)))) (modelW 0 (tk 0 5) (tk 0 6) th tr wh fa ta sz ix so pl nu wd td mk mo tx P D ea pa co S Cc V ba B R L G)
abbrev csX14_binding : q_S := (5, 14, 2, 7, 0, 0, fdX14_binding, spX14_binding)
def EX14_binding : q_E := (tX14_binding, [(8, [0, 1, 2, 3, 4, 5]), (54, [0, 1, 2, 3, 4, 5, 6])], 7, flX14, [(430, csX14_isTaken)], [], [], [], [], [], 2, 0, 0, (some .int), [], [], 0, 0)
theorem okX14_binding (l : Launch) : q_Eok l RX14 cX14_binding EX14_binding := ⟨tX14_binding_ok, flX14_ok, List.forall_mem_cons.mpr ⟨(coX14_430 l), q_nil⟩, q_nil, q_nil, q_nil, q_nil, q_nil, (fun h => absurd h (by decide))⟩
set_option maxRecDepth 100000 in
set_option maxHeartbeats 4000000 in
theorem ctX14_binding (l : Launch) : q_CT l yX14_binding (.code yX14_binding cX14_binding 7 (some .int)) 2 0 0 spX14_binding := by
  refine q_ct_of EX14_binding (by decide +kernel) (okX14_binding l) rfl rfl rfl rfl rfl q_nil (fun ci h => by cases h) rfl ?_
  intro a w K h
  obtain ⟨th, tr, wh, fa, ta, sz, ix, so, pl, nu, wd, td, mk, mo, tx, P, D, ea, pa, co, S, Cc, V, ba, B, R, L, G, on, m, ld, d, rfl, rfl, hC0, hL, hK⟩ := h
  refine ⟨Nat.le_of_ble_eq_true rfl, fun C hC => ?_⟩
  have loop : ∀ n, n ≤ Cc.2.2.2.2.2.2.2 → K (.inl (some (.int (match rulO (bndP Cc L on m ld d) n with | none => -2 | some j => Cc.2.2.2.2.1 j)))) (modelW 0 (tk 0 5) (tk 0 6) th tr wh fa ta sz ix so pl nu wd td mk mo tx P D ea pa co S Cc V ba B R L G) → C 8 [(0, .ref 0), (1, .int on), (2, .int m), (3, .int ld), (4, .int d), (5, .int (nI n - 1))] [] (modelW 0 (tk 0 5) (tk 0 6) th tr wh fa ta sz ix so pl nu wd td mk mo tx P D ea pa co S Cc V ba B R L G) 0 0 := by
    intro n
    induction n with
    | zero =>
      intro _ hK
      exact hC _ _ _ _ _ _ (And.intro (fun _ => hK) (fun c => absurd (show nI 0 - 1 < 0 by decide) c))
    | succ n ih =>
      intro hn hK
      rw [nI_pred n]
      have hv : vp_in (nI n) 20 := vp_in_nI (by omega) (by omega)
      have hc : (nI n).toNatClampNeg = n := nI_clamp (by omega)
      have no : bndP Cc L on m ld d n = false → C 8 [(0, .ref 0), (1, .int on), (2, .int m), (3, .int ld), (4, .int d), (5, .int (nI n + (-1)))] [] (modelW 0 (tk 0 5) (tk 0 6) th tr wh fa ta sz ix so pl nu wd td mk mo tx P D ea pa co S Cc V ba B R L G) 0 0 := by
        intro hf
        rw [rulO, hf] at hK
        have h9 := ih (by omega) hK
        rw [show nI n + (-1) = nI n - 1 from (Int32.sub_eq_add_neg ..).symm]
        exact h9
      have fin : ∀ b : Bool, b = (decide (Cc.2.2.1 n = on) && (decide (Cc.2.2.2.1 n = m) && decide (Cc.2.2.2.2.2.1 n ≤ d))) → C 54 [(0, .ref 0), (1, .int on), (2, .int m), (3, .int ld), (4, .int d), (5, .int (nI n)), (6, .int (bI b))] [] (modelW 0 (tk 0 5) (tk 0 6) th tr wh fa ta sz ix so pl nu wd td mk mo tx P D ea pa co S Cc V ba B R L G) 0 0 := by
        intro b hb
        have hP : bndP Cc L on m ld d n = (b && accOn L d ld (Cc.1 n) (Cc.2.1 n)) := by
          unfold bndP
          rw [hb]
          simp only [Bool.and_assoc]
        refine hC _ _ _ _ _ _ (And.intro (fun c => ?_) (fun c => ⟨hv, hv, _, _, _, _, _, _, _, _, _, _, _, _, _, _, _, _, _, _, _, _, _, _, _, _, _, _, _, _, rfl, rfl, hL, And.intro (fun c2 => ?_) (fun c2 => ⟨hv, ?_⟩)⟩))
        · exact no (by rw [hP, bI_0.mp c, Bool.false_and])
        · have c2 := bI_0.mp c2
          rw [hc] at c2
          exact no (by rw [hP, c2, Bool.and_false])
        · have c2 := bI_n0.mp c2
          rw [hc] at c2
          rw [rulO, hP, bI_n0.mp c, c2] at hK
          rw [hc]
          exact hK
      refine hC _ _ _ _ _ _ (And.intro (fun c => absurd c (nI_pos (by omega))) (fun _ => ⟨hv, And.intro (fun c => ?_) (fun c => ⟨hv, And.intro (fun c2 => ?_) (fun c2 => ⟨hv, And.intro (fun c3 => ?_) (fun c3 => ?_)⟩)⟩)⟩))
      · rw [hc] at c
        exact fin false (by rw [decide_eq_false c, Bool.false_and])
      · rw [hc] at c2
        exact fin false (by rw [decide_eq_false c2, Bool.false_and, Bool.and_false])
      · rw [hc] at c3
        exact fin false (by rw [decide_eq_false (Int32.not_le.mpr c3), Bool.and_false, Bool.and_false])
      · rw [hc] at c c2 c3
        exact fin true (by rw [decide_eq_true c, decide_eq_true c2, decide_eq_true (Int32.not_lt.mp c3)]; rfl)
  exact hC _ _ _ _ _ _ (loop Cc.2.2.2.2.2.2.2 (Nat.le_refl _) hK)
def tX14_binds : List q_I := [(0, .aload_n 0, 1, 0, 0), (1, .iconst 0, 1, 0, 0), (2, .putfield 123, 3, 0, 0), (5, .aload_n 0, 1, 0, 0), (6, .iload_n 1, 1, 0, 0), (7, .invokevirtual 417, 3, 0, 0), (10, .ifCond .eq 12, 3, 0, 22), (13, .aload_n 0, 1, 0, 0), (14, .iconst 1, 1, 1, 0), (15, .iload_n 3, 1, 0, 0), (16, .invokevirtual 407, 3, 0, 0), (19, .ifCond .ne 9, 3, 0, 28), (22, .aload_n 0, 1, 0, 0), (23, .iconst 1, 1, 1, 0), (24, .invokevirtual 365, 3, 0, 0), (27, .ireturn, 1, 0, 0), (28, .iload_n 2, 1, 0, 0), (29, .iconst 0, 1, 0, 0), (30, .bipush 9, 2, 9, 0), (32, .invokestatic 207, 3, 0, 0), (35, .ifCond .eq 11, 3, 0, 46), (38, .iload 4, 2, 0, 0), (40, .invokestatic 411, 3, 0, 0), (43, .ifCond .ne 9, 3, 0, 52), (46, .aload_n 0, 1, 0, 0), (47, .iconst 2, 1, 2, 0), (48, .invokevirtual 365, 3, 0, 0), (51, .ireturn, 1, 0, 0), (52, .aload_n 0, 1, 0, 0), (53, .aload_n 0, 1, 0, 0), (54, .iload_n 1, 1, 0, 0), (55, .iload_n 2, 1, 0, 0), (56, .iload_n 3, 1, 0, 0), (57, .iload 4, 2, 0, 0), (59, .invokevirtual 486, 3, 0, 0), (62, .invokevirtual 397, 3, 0, 0), (65, .ireturn, 1, 0, 0)]
theorem tX14_binds_ok : (tX14_binds.all (q_okI cX14_binds)) = true := by decide +kernel

abbrev fdX14_binds : List (Nat ⊕ (Nat × Nat)) := [.inl 0, .inr (0, 7), .inr (0, 17), .inr (0, 18), .inr (0, 19), .inr (0, 20), .inr (0, 21), .inr (0, 22), .inr (0, 23), .inr (0, 26), .inr (0, 27), .inr (0, 28), .inr (0, 31), .inr (0, 32), .inr (0, 33), .inr (0, 34), .inr (0, 36), .inr (0, 37), .inr (0, 38), .inr (0, 39), .inr (0, 40), .inr (0, 41), .inr (0, 43), .inr (0, 44), .inr (0, 45), .inr (0, 46), .inr (0, 47), .inr (0, 48), .inr (0, 50), .inr (0, 51), .inr (0, 52), .inr (0, 4), .inr (31, 0), .inr (31, 1), .inr (31, 2), .inr (31, 3), .inr (31, 8), .inr (31, 9), .inr (31, 10), .inr (31, 11), .inr (31, 12), .inr (31, 13), .inr (31, 14), .inr (31, 15), .inr (31, 16), .inr (31, 17), .inr (31, 18), .inr (31, 19), .inr (31, 20), .inr (31, 21), .inr (31, 22), .inr (31, 23), .inr (31, 24), .inr (31, 25), .inr (31, 26), .inr (31, 27), .inr (31, 28)]
def spX14_binds : q_P := fun a w K => ∃ (th : Int32) (tr : Int32) (wh : Int32) (fa : Int32) (ta : Nat) (sz : Int32) (ix : Int32) (so : Int32) (pl : Int32) (nu : Int32) (wd : Int64) (td : Int32) (mk : Int32) (mo : Int32) (tx : Nat → Int32) (P : PT) (D : DT) (ea : Nat → Int32) (pa : Nat → Int32) (co : Nat → Int32) (S : ST) (Cc : CT) (V : VT) (ba : Nat → Int32) (B : BT) (R : RT) (L : LT) (G : GT) (p m ld d : Int32), w = (modelW 0 (tk 0 5) (tk 0 6) th tr wh fa ta sz ix so pl nu wd td mk mo tx P D ea pa co S Cc V ba B R L G) ∧ a = [.ref 0, .int p, .int m, .int ld, .int d] ∧ Cc.2.2.2.2.2.2.2 ≤ 20 ∧ L_n L ≤ 24 ∧ (if (perB P p && toldB B.1 1 ld) = true then (if (matB m && dayB d) = true then K (.inl (some (.int (bndV Cc L p m ld d)))) (modelW 0 (tk 0 5) (tk 0 6) (0) (0) (-1) fa ta sz ix so pl nu wd td mk mo tx P D ea pa co S Cc V ba B R L G) else K (.inl (some (.int (-1)))) (modelW 0 (tk 0 5) (tk 0 6) (0) (2) (-1) fa ta sz ix so pl nu wd td mk mo tx P D ea pa co S Cc V ba B R L G)) else K (.inl (some (.int (-1)))) (modelW 0 (tk 0 5) (tk 0 6) (0) (1) (-1) fa ta sz ix so pl nu wd td mk mo tx P D ea pa co S Cc V ba B R L G))
abbrev csX14_binds : q_S := (5, 14, 3, 5, 0, 0, fdX14_binds, spX14_binds)
theorem coX14_486 (l : Launch) : q_CO l RX14 486 csX14_binding := ⟨yX14_binding, cX14_binding, (some .int), 4, ⟨by decide +kernel, by decide +kernel, by decide +kernel⟩, q_G_i 17 (by decide +kernel) rfl, Or.inl ⟨by decide, rfl, rfl, q_G_i 1867 (by decide +kernel) rfl, q_G_i 1869 (by decide +kernel) rfl, q_G_s (n := 53) 88 (by decide +kernel), Or.inl ⟨q_G_i 1870 (by decide +kernel) rfl, ctX14_binding l⟩⟩⟩
def EX14_binds : q_E := (tX14_binds, [], 5, flX14, [(417, csX14_isPerson), (407, csX14_isOf), (365, csX14_refused), (207, csX14_in), (411, csX14_isDay), (486, csX14_binding), (397, csX14_done)], [], [], [], [], [], 3, 0, 0, (some .int), [], [], 0, 0)
theorem okX14_binds (l : Launch) : q_Eok l RX14 cX14_binds EX14_binds := ⟨tX14_binds_ok, flX14_ok, List.forall_mem_cons.mpr ⟨(coX14_417 l), List.forall_mem_cons.mpr ⟨(coX14_407 l), List.forall_mem_cons.mpr ⟨(coX14_365 l), List.forall_mem_cons.mpr ⟨(coX14_207 l), List.forall_mem_cons.mpr ⟨(coX14_411 l), List.forall_mem_cons.mpr ⟨(coX14_486 l), List.forall_mem_cons.mpr ⟨(coX14_397 l), q_nil⟩⟩⟩⟩⟩⟩⟩, q_nil, q_nil, q_nil, q_nil, q_nil, (fun h => absurd h (by decide))⟩
set_option maxRecDepth 100000 in
set_option maxHeartbeats 4000000 in
theorem ctX14_binds (l : Launch) : q_CT l yX14_binds (.code yX14_binds cX14_binds 5 (some .int)) 3 0 0 spX14_binds := by
  refine q_ct_of EX14_binds (by decide +kernel) (okX14_binds l) rfl rfl rfl rfl rfl q_nil (fun ci h => by cases h) rfl ?_
  intro a w K h
  obtain ⟨th, tr, wh, fa, ta, sz, ix, so, pl, nu, wd, td, mk, mo, tx, P, D, ea, pa, co, S, Cc, V, ba, B, R, L, G, p, m, ld, d, rfl, rfl, hC0, hL, hK⟩ := h
  refine ⟨Nat.le_of_ble_eq_true rfl, fun C hC => hC _ _ _ _ _ _ ?_⟩
  refine ⟨_, _, _, _, _, _, _, _, _, _, _, _, _, _, _, _, _, _, _, _, _, _, _, p, rfl, rfl, And.intro (fun c => ?_) (fun c => ?_)⟩
  · have c : perB P p = false := bI_0.mp c
    rw [c] at hK
    exact ⟨_, _, _, _, _, _, _, _, _, _, _, _, _, _, _, _, _, _, _, _, _, _, _, _, rfl, rfl, hK⟩
  have c : perB P p = true := bI_n0.mp c
  rw [c, Bool.true_and] at hK
  refine ⟨_, _, _, _, _, _, _, _, _, _, _, _, _, _, _, _, _, _, _, _, _, _, _, _, 1, ld, rfl, rfl, by decide, And.intro (fun c2 => ?_) (fun c2 => ?_)⟩
  rotate_left
  · rw [if_neg (by rw [bI_0.mp c2]; decide)] at hK
    exact ⟨_, _, _, _, _, _, _, _, _, _, _, _, _, _, _, _, _, _, _, _, _, _, _, _, rfl, rfl, hK⟩
  rw [if_pos (bI_n0.mp c2)] at hK
  refine ⟨m, 0, 9, rfl, rfl, And.intro (fun c3 => ?_) (fun c3 => ?_)⟩
  · have c3 : matB m = false := bI_0.mp c3
    rw [c3] at hK
    exact ⟨_, _, _, _, _, _, _, _, _, _, _, _, _, _, _, _, _, _, _, _, _, _, _, _, rfl, rfl, hK⟩
  have c3 : matB m = true := bI_n0.mp c3
  rw [c3, Bool.true_and] at hK
  refine ⟨d, rfl, rfl, And.intro (fun c4 => ?_) (fun c4 => ?_)⟩
  · rw [if_pos (bI_n0.mp c4)] at hK
    exact ⟨_, _, _, _, _, _, _, _, _, _, _, _, _, _, _, _, _, _, _, _, _, _, _, _, _, _, _, _, p, m, ld, d, rfl, rfl, hC0, hL, _, _, _, _, _, _, _, _, _, _, _, _, _, _, _, _, _, _, _, _, _, _, _, _, rfl, rfl, hK⟩
  · rw [if_neg (by rw [bI_0.mp c4]; decide)] at hK
    exact ⟨_, _, _, _, _, _, _, _, _, _, _, _, _, _, _, _, _, _, _, _, _, _, _, _, rfl, rfl, hK⟩
theorem unlC_0 {b : Nat → Int32} {i : Nat} (h : b i = -2) : ∀ j, unlC b i j = 0
  | 0 => rfl
  | j + 1 => by
    rw [unlC, unlC_0 h j, show unlB b i j = false by rw [unlB, decide_eq_false (fun z => z h), Bool.false_and]]
    rfl
def tX14_unlike : List q_I := [(0, .aload_n 0, 1, 0, 0), (1, .iconst 0, 1, 0, 0), (2, .putfield 123, 3, 0, 0), (5, .aload_n 0, 1, 0, 0), (6, .iload_n 1, 1, 0, 0), (7, .invokevirtual 417, 3, 0, 0), (10, .ifCond .ne 9, 3, 0, 19), (13, .aload_n 0, 1, 0, 0), (14, .iconst 1, 1, 1, 0), (15, .invokevirtual 365, 3, 0, 0), (18, .ireturn, 1, 0, 0), (19, .iload_n 2, 1, 0, 0), (20, .iconst 0, 1, 0, 0), (21, .bipush 9, 2, 9, 0), (23, .invokestatic 207, 3, 0, 0), (26, .ifCond .eq 10, 3, 0, 36), (29, .iload_n 3, 1, 0, 0), (30, .invokestatic 411, 3, 0, 0), (33, .ifCond .ne 9, 3, 0, 42), (36, .aload_n 0, 1, 0, 0), (37, .iconst 2, 1, 2, 0), (38, .invokevirtual 365, 3, 0, 0), (41, .ireturn, 1, 0, 0), (42, .iconst 0, 1, 0, 0), (43, .istore 4, 2, 0, 0), (45, .iconst 0, 1, 0, 0), (46, .istore 5, 2, 0, 0), (48, .iload 5, 2, 0, 0), (50, .aload_n 0, 1, 0, 0), (51, .getfield 379, 3, 0, 0), (54, .getfield 246, 3, 0, 0), (57, .iconst 1, 1, 1, 0), (58, .iaload, 1, 0, 0), (59, .if_icmp .ge 78, 3, 0, 137), (62, .aload_n 0, 1, 0, 0), (63, .iload_n 1, 1, 0, 0), (64, .iload_n 2, 1, 0, 0), (65, .iload 5, 2, 0, 0), (67, .iload_n 3, 1, 0, 0), (68, .invokevirtual 486, 3, 0, 0), (71, .istore 6, 2, 0, 0), (73, .iconst 0, 1, 0, 0), (74, .istore 7, 2, 0, 0), (76, .iload 7, 2, 0, 0), (78, .iload 5, 2, 0, 0), (80, .if_icmp .ge 51, 3, 0, 131), (83, .iload 6, 2, 0, 0), (85, .bipush (-2), 2, (-2), 0), (87, .if_icmp .eq 44, 3, 0, 131), (90, .aload_n 0, 1, 0, 0), (91, .iload_n 1, 1, 0, 0), (92, .iload_n 2, 1, 0, 0), (93, .iload 7, 2, 0, 0), (95, .iload_n 3, 1, 0, 0), (96, .invokevirtual 486, 3, 0, 0), (99, .istore 8, 2, 0, 0), (101, .iload 4, 2, 0, 0), (103, .iload 8, 2, 0, 0), (105, .bipush (-2), 2, (-2), 0), (107, .if_icmp .eq 14, 3, 0, 121), (110, .iload 8, 2, 0, 0), (112, .iload 6, 2, 0, 0), (114, .if_icmp .eq 7, 3, 0, 121), (117, .iconst 1, 1, 1, 0), (118, .goto 4, 3, 0, 122), (121, .iconst 0, 1, 0, 0), (122, .iadd, 1, 0, 0), (123, .istore 4, 2, 0, 0), (125, .iinc 7 1, 3, 1, 0), (128, .goto (-52), 3, 0, 76), (131, .iinc 5 1, 3, 1, 0), (134, .goto (-86), 3, 0, 48), (137, .aload_n 0, 1, 0, 0), (138, .iload 4, 2, 0, 0), (140, .invokevirtual 397, 3, 0, 0), (143, .ireturn, 1, 0, 0)]
theorem tX14_unlike_ok : (tX14_unlike.all (q_okI cX14_unlike)) = true := by decide +kernel

abbrev fdX14_unlike : List (Nat ⊕ (Nat × Nat)) := [.inl 0, .inr (0, 7), .inr (0, 17), .inr (0, 18), .inr (0, 19), .inr (0, 20), .inr (0, 21), .inr (0, 22), .inr (0, 23), .inr (0, 26), .inr (0, 27), .inr (0, 28), .inr (0, 31), .inr (0, 32), .inr (0, 33), .inr (0, 34), .inr (0, 36), .inr (0, 37), .inr (0, 38), .inr (0, 39), .inr (0, 40), .inr (0, 41), .inr (0, 43), .inr (0, 44), .inr (0, 45), .inr (0, 46), .inr (0, 47), .inr (0, 48), .inr (0, 50), .inr (0, 51), .inr (0, 52), .inr (0, 4), .inr (31, 0), .inr (31, 1), .inr (31, 2), .inr (31, 3), .inr (31, 8), .inr (31, 9), .inr (31, 10), .inr (31, 11), .inr (31, 12), .inr (31, 13), .inr (31, 14), .inr (31, 15), .inr (31, 16), .inr (31, 17), .inr (31, 18), .inr (31, 19), .inr (31, 20), .inr (31, 21), .inr (31, 22), .inr (31, 23), .inr (31, 24), .inr (31, 25), .inr (31, 26), .inr (31, 27), .inr (31, 28)]
def spX14_unlike : q_P := fun a w K => ∃ (th : Int32) (tr : Int32) (wh : Int32) (fa : Int32) (ta : Nat) (sz : Int32) (ix : Int32) (so : Int32) (pl : Int32) (nu : Int32) (wd : Int64) (td : Int32) (mk : Int32) (mo : Int32) (tx : Nat → Int32) (P : PT) (D : DT) (ea : Nat → Int32) (pa : Nat → Int32) (co : Nat → Int32) (S : ST) (Cc : CT) (V : VT) (ba : Nat → Int32) (B : BT) (R : RT) (L : LT) (G : GT) (n : Nat) (p m d : Int32), w = (modelW 0 (tk 0 5) (tk 0 6) th tr wh fa ta sz ix so pl nu wd td mk mo tx P D ea pa co S Cc V ba B R L G) ∧ a = [.ref 0, .int p, .int m, .int d] ∧ Cc.2.2.2.2.2.2.2 ≤ 20 ∧ L_n L ≤ 24 ∧ B.1 1 = nI n ∧ n ≤ 5 ∧ (if perB P p = true then (if (matB m && dayB d) = true then K (.inl (some (.int (nI (unlT (fun i => bndV Cc L p m (nI i) d) n))))) (modelW 0 (tk 0 5) (tk 0 6) (0) (0) (-1) fa ta sz ix so pl nu wd td mk mo tx P D ea pa co S Cc V ba B R L G) else K (.inl (some (.int (-1)))) (modelW 0 (tk 0 5) (tk 0 6) (0) (2) (-1) fa ta sz ix so pl nu wd td mk mo tx P D ea pa co S Cc V ba B R L G)) else K (.inl (some (.int (-1)))) (modelW 0 (tk 0 5) (tk 0 6) (0) (1) (-1) fa ta sz ix so pl nu wd td mk mo tx P D ea pa co S Cc V ba B R L G))
abbrev csX14_unlike : q_S := (4, 14, 3, 9, 0, 0, fdX14_unlike, spX14_unlike)
def EX14_unlike : q_E := (tX14_unlike, [(48, [0, 1, 2, 3, 4, 5]), (76, [0, 1, 2, 3, 4, 5, 6, 7])], 9, flX14, [(417, csX14_isPerson), (365, csX14_refused), (207, csX14_in), (411, csX14_isDay), (486, csX14_binding), (397, csX14_done)], [], [], [], [], [], 3, 0, 0, (some .int), [], [], 0, 0)
theorem okX14_unlike (l : Launch) : q_Eok l RX14 cX14_unlike EX14_unlike := ⟨tX14_unlike_ok, flX14_ok, List.forall_mem_cons.mpr ⟨(coX14_417 l), List.forall_mem_cons.mpr ⟨(coX14_365 l), List.forall_mem_cons.mpr ⟨(coX14_207 l), List.forall_mem_cons.mpr ⟨(coX14_411 l), List.forall_mem_cons.mpr ⟨(coX14_486 l), List.forall_mem_cons.mpr ⟨(coX14_397 l), q_nil⟩⟩⟩⟩⟩⟩, q_nil, q_nil, q_nil, q_nil, q_nil, (fun h => absurd h (by decide))⟩
set_option maxRecDepth 100000 in
set_option maxHeartbeats 4000000 in
theorem ctX14_unlike (l : Launch) : q_CT l yX14_unlike (.code yX14_unlike cX14_unlike 9 (some .int)) 3 0 0 spX14_unlike := by
  refine q_ct_of EX14_unlike (by decide +kernel) (okX14_unlike l) rfl rfl rfl rfl rfl q_nil (fun ci h => by cases h) rfl ?_
  intro a w K h
  obtain ⟨th, tr, wh, fa, ta, sz, ix, so, pl, nu, wd, td, mk, mo, tx, P, D, ea, pa, co, S, Cc, V, ba, B, R, L, G, n, p, m, d, rfl, rfl, hC0, hL, hB, hn, hK⟩ := h
  have h0 : vp_in (1 : Int32) 4 := vp_in_nI (n := 1) (by decide) (by decide)
  refine ⟨Nat.le_of_ble_eq_true rfl, fun C hC => hC _ _ _ _ _ _ ?_⟩
  refine ⟨_, _, _, _, _, _, _, _, _, _, _, _, _, _, _, _, _, _, _, _, _, _, _, p, rfl, rfl, And.intro (fun c => ?_) (fun c => ?_)⟩
  rotate_left
  · have c : perB P p = false := bI_0.mp c
    rw [if_neg (by rw [c]; decide)] at hK
    exact ⟨_, _, _, _, _, _, _, _, _, _, _, _, _, _, _, _, _, _, _, _, _, _, _, _, rfl, rfl, hK⟩
  have c : perB P p = true := bI_n0.mp c
  rw [if_pos c] at hK
  refine ⟨m, 0, 9, rfl, rfl, And.intro (fun c3 => ?_) (fun c3 => ?_)⟩
  · have c3 : matB m = false := bI_0.mp c3
    rw [c3] at hK
    exact ⟨_, _, _, _, _, _, _, _, _, _, _, _, _, _, _, _, _, _, _, _, _, _, _, _, rfl, rfl, hK⟩
  have c3 : matB m = true := bI_n0.mp c3
  rw [c3, Bool.true_and] at hK
  refine ⟨d, rfl, rfl, And.intro (fun c4 => ?_) (fun c4 => ?_)⟩
  rotate_left
  · rw [if_neg (by rw [bI_0.mp c4]; decide)] at hK
    exact ⟨_, _, _, _, _, _, _, _, _, _, _, _, _, _, _, _, _, _, _, _, _, _, _, _, rfl, rfl, hK⟩
  rw [if_pos (bI_n0.mp c4)] at hK
  generalize hbf : (fun i => bndV Cc L p m (nI i) d) = bf at hK
  have outer : ∀ k i, i + k = n → C 48 [(0, .ref 0), (1, .int p), (2, .int m), (3, .int d), (4, .int (nI (unlT bf i))), (5, .int (nI i))] [] (modelW 0 (tk 0 5) (tk 0 6) (0) tr wh fa ta sz ix so pl nu wd td mk mo tx P D ea pa co S Cc V ba B R L G) 0 0 := by
    intro k
    induction k with
    | zero =>
      intro i hi
      have hi : i = n := hi
      subst hi
      exact hC _ _ _ _ _ _ ⟨h0, And.intro (fun _ => ⟨_, _, _, _, _, _, _, _, _, _, _, _, _, _, _, _, _, _, _, _, _, _, _, _, rfl, rfl, hK⟩) (fun z => absurd (show B.1 1 ≤ nI i by rw [hB]; exact nI_le (by omega) (by omega)) z)⟩
    | succ k ih =>
      intro i hi
      have hbi : bndV Cc L p m (nI i) d = bf i := by rw [← hbf]
      have nxt : ∀ v, v = unlT bf i + unlC bf i i → C 48 [(0, .ref 0), (1, .int p), (2, .int m), (3, .int d), (4, .int (nI v)), (5, .int (nI i + 1))] [] (modelW 0 (tk 0 5) (tk 0 6) (0) tr wh fa ta sz ix so pl nu wd td mk mo tx P D ea pa co S Cc V ba B R L G) 0 0 := by
        intro v e
        have h9 := ih (i + 1) (by omega)
        rw [unlT, ← e, ← nI_1] at h9
        exact h9
      have inner : ∀ q j, j + q = i → C 76 [(0, .ref 0), (1, .int p), (2, .int m), (3, .int d), (4, .int (nI (unlT bf i + unlC bf i j))), (5, .int (nI i)), (6, .int (bf i)), (7, .int (nI j))] [] (modelW 0 (tk 0 5) (tk 0 6) (0) tr wh fa ta sz ix so pl nu wd td mk mo tx P D ea pa co S Cc V ba B R L G) 0 0 := by
        intro q
        induction q with
        | zero =>
          intro j hj
          have hj : j = i := hj
          subst hj
          exact hC _ _ _ _ _ _ (And.intro (fun _ => nxt _ rfl) (fun z => absurd (Int32.le_refl _) z))
        | succ q ih2 =>
          intro j hj
          have hbj : bndV Cc L p m (nI j) d = bf j := by rw [← hbf]
          have nx : ∀ b : Bool, b = unlB bf i j → C 76 [(0, .ref 0), (1, .int p), (2, .int m), (3, .int d), (4, .int (nI (unlT bf i + unlC bf i j) + bI b)), (5, .int (nI i)), (6, .int (bf i)), (7, .int (nI j + 1))] [] (modelW 0 (tk 0 5) (tk 0 6) (0) tr wh fa ta sz ix so pl nu wd td mk mo tx P D ea pa co S Cc V ba B R L G) 0 0 := by
            intro b e
            have h9 := ih2 (j + 1) (by omega)
            rw [unlC, ← e, ← nI_1 j] at h9
            cases b with
            | false =>
              rw [show nI (unlT bf i + unlC bf i j) + bI false = nI (unlT bf i + unlC bf i j) from Int32.add_zero _]
              exact h9
            | true =>
              rw [show nI (unlT bf i + unlC bf i j) + bI true = nI (unlT bf i + unlC bf i j + 1) from nI_1 _]
              exact h9
          refine hC _ _ _ _ _ _ (And.intro (fun z => absurd z (nI_ge (by omega) (by omega))) (fun _ => And.intro (fun c5 => ?_) (fun c5 => ⟨_, _, _, _, _, _, _, _, _, _, _, _, _, _, _, _, _, _, _, _, _, _, _, _, _, _, _, _, p, m, nI j, d, rfl, rfl, hC0, hL, ?_⟩)))
          · exact nxt _ (by rw [unlC_0 c5, unlC_0 c5])
          · rw [hbj]
            refine And.intro (fun c6 => nx false ?_) (fun c6 => And.intro (fun c7 => nx false ?_) (fun c7 => nx true ?_))
            · rw [unlB, decide_eq_false (fun z : ¬ bf j = -2 => z c6), Bool.false_and, Bool.and_false]
            · rw [unlB, decide_eq_false (fun z : ¬ bf i = bf j => z c7.symm), Bool.and_false, Bool.and_false]
            · rw [unlB, decide_eq_true c5, decide_eq_true c6, decide_eq_true (p := ¬ bf i = bf j) (fun z => c7 z.symm)]; rfl
      have h9 := inner i 0 (by omega)
      refine hC _ _ _ _ _ _ ⟨h0, And.intro (fun z => absurd (show B.1 1 ≤ nI i from z) (by rw [hB]; exact nI_ge (by omega) (by omega))) (fun _ => ⟨_, _, _, _, _, _, _, _, _, _, _, _, _, _, _, _, _, _, _, _, _, _, _, _, _, _, _, _, p, m, nI i, d, rfl, rfl, hC0, hL, ?_⟩)⟩
      rw [hbi]
      exact h9
  exact outer n 0 (by omega)
theorem in_ex {x a b : Int32} : (¬ (a ≤ x ∧ x ≤ b)) → (x < a ∨ b < x) := fun h => by
  rcases Int32.lt_or_le x a with z | z
  · exact Or.inl z
  · rcases Int32.lt_or_le b x with y | y
    · exact Or.inr y
    · exact absurd ⟨z, y⟩ h
theorem in_nx {x a b : Int32} (h : a ≤ x ∧ x ≤ b) : ¬ (x < a ∨ b < x) := fun z => z.elim (Int32.not_lt.mpr h.1) (Int32.not_lt.mpr h.2)
def tX14_contract : List q_I := [(0, .aload_n 0, 1, 0, 0), (1, .iconst 0, 1, 0, 0), (2, .putfield 123, 3, 0, 0), (5, .aload_n 0, 1, 0, 0), (6, .iload_n 1, 1, 0, 0), (7, .invokevirtual 417, 3, 0, 0), (10, .ifCond .ne 9, 3, 0, 19), (13, .aload_n 0, 1, 0, 0), (14, .iconst 1, 1, 1, 0), (15, .invokevirtual 365, 3, 0, 0), (18, .ireturn, 1, 0, 0), (19, .iload_n 2, 1, 0, 0), (20, .iconst 1, 1, 1, 0), (21, .sipush 999, 3, 999, 0), (24, .invokestatic 207, 3, 0, 0), (27, .ifCond .ne 9, 3, 0, 36), (30, .aload_n 0, 1, 0, 0), (31, .iconst 2, 1, 2, 0), (32, .invokevirtual 365, 3, 0, 0), (35, .ireturn, 1, 0, 0), (36, .aload_n 0, 1, 0, 0), (37, .getfield 394, 3, 0, 0), (40, .bipush 10, 2, 10, 0), (42, .if_icmp .ne 9, 3, 0, 51), (45, .aload_n 0, 1, 0, 0), (46, .iconst 3, 1, 3, 0), (47, .invokevirtual 365, 3, 0, 0), (50, .ireturn, 1, 0, 0), (51, .aload_n 0, 1, 0, 0), (52, .getfield 114, 3, 0, 0), (55, .aload_n 0, 1, 0, 0), (56, .getfield 394, 3, 0, 0), (59, .iload_n 1, 1, 0, 0), (60, .iastore, 1, 0, 0), (61, .aload_n 0, 1, 0, 0), (62, .getfield 117, 3, 0, 0), (65, .aload_n 0, 1, 0, 0), (66, .getfield 394, 3, 0, 0), (69, .iload_n 2, 1, 0, 0), (70, .iastore, 1, 0, 0), (71, .aload_n 0, 1, 0, 0), (72, .dup, 1, 0, 0), (73, .getfield 394, 3, 0, 0), (76, .iconst 1, 1, 1, 0), (77, .iadd, 1, 0, 0), (78, .putfield 394, 3, 0, 0), (81, .aload_n 0, 1, 0, 0), (82, .aload_n 0, 1, 0, 0), (83, .getfield 394, 3, 0, 0), (86, .iconst 1, 1, 1, 0), (87, .isub, 1, 0, 0), (88, .invokevirtual 397, 3, 0, 0), (91, .ireturn, 1, 0, 0)]
theorem tX14_contract_ok : (tX14_contract.all (q_okI cX14_contract)) = true := by decide +kernel

abbrev fdX14_contract : List (Nat ⊕ (Nat × Nat)) := [.inl 0, .inr (0, 7), .inr (0, 17), .inr (0, 18), .inr (0, 19), .inr (0, 20), .inr (0, 21), .inr (0, 22), .inr (0, 23), .inr (0, 26), .inr (0, 27), .inr (0, 28), .inr (0, 31), .inr (0, 32), .inr (0, 33), .inr (0, 34), .inr (0, 36), .inr (0, 37), .inr (0, 38), .inr (0, 39), .inr (0, 40), .inr (0, 41), .inr (0, 43), .inr (0, 44), .inr (0, 45), .inr (0, 46), .inr (0, 47), .inr (0, 48), .inr (0, 50), .inr (0, 51), .inr (0, 52), .inr (0, 4), .inr (31, 0), .inr (31, 1), .inr (31, 2), .inr (31, 3), .inr (31, 8), .inr (31, 9), .inr (31, 10), .inr (31, 11), .inr (31, 12), .inr (31, 13), .inr (31, 14), .inr (31, 15), .inr (31, 16), .inr (31, 17), .inr (31, 18), .inr (31, 19), .inr (31, 20), .inr (31, 21), .inr (31, 22), .inr (31, 23), .inr (31, 24), .inr (31, 25), .inr (31, 26), .inr (31, 27), .inr (31, 28)]
def spX14_contract : q_P := fun a w K => ∃ (th : Int32) (tr : Int32) (wh : Int32) (fa : Int32) (ta : Nat) (sz : Int32) (ix : Int32) (so : Int32) (pl : Int32) (nu : Int32) (wd : Int64) (td : Int32) (mk : Int32) (mo : Int32) (tx : Nat → Int32) (P : PT) (D : DT) (ea : Nat → Int32) (pa : Nat → Int32) (co : Nat → Int32) (S : ST) (Cc : CT) (V : VT) (ba : Nat → Int32) (B : BT) (R : RT) (L : LT) (G : GT) (p x : Int32), w = (modelW 0 (tk 0 5) (tk 0 6) th tr wh fa ta sz ix so pl nu wd td mk mo tx P D ea pa co S Cc V ba B R L G) ∧ a = [.ref 0, .int p, .int x] ∧ D.2.2.2 ≤ 10 ∧ (if perB P p = true then (if x < 1 ∨ 999 < x then K (.inl (some (.int (-1)))) (modelW 0 (tk 0 5) (tk 0 6) (0) (2) (-1) fa ta sz ix so pl nu wd td mk mo tx P D ea pa co S Cc V ba B R L G) else (if D.2.2.2 < 10 then K (.inl (some (.int (nI D.2.2.2)))) (modelW 0 (tk 0 5) (tk 0 6) (0) (0) (-1) fa ta sz ix so pl nu wd td mk mo tx P ((upd D.1 D.2.2.2 p, upd D.2.1 D.2.2.2 x, D.2.2.1, D.2.2.2 + 1)) ea pa co S Cc V ba B R L G) else K (.inl (some (.int (-1)))) (modelW 0 (tk 0 5) (tk 0 6) (0) (3) (-1) fa ta sz ix so pl nu wd td mk mo tx P D ea pa co S Cc V ba B R L G))) else K (.inl (some (.int (-1)))) (modelW 0 (tk 0 5) (tk 0 6) (0) (1) (-1) fa ta sz ix so pl nu wd td mk mo tx P D ea pa co S Cc V ba B R L G))
abbrev csX14_contract : q_S := (3, 14, 1, 3, 0, 0, fdX14_contract, spX14_contract)
def EX14_contract : q_E := (tX14_contract, [], 3, flX14, [(417, csX14_isPerson), (365, csX14_refused), (207, csX14_in), (397, csX14_done)], [], [], [], [], [], 1, 0, 0, (some .int), [], [], 0, 0)
theorem okX14_contract (l : Launch) : q_Eok l RX14 cX14_contract EX14_contract := ⟨tX14_contract_ok, flX14_ok, List.forall_mem_cons.mpr ⟨(coX14_417 l), List.forall_mem_cons.mpr ⟨(coX14_365 l), List.forall_mem_cons.mpr ⟨(coX14_207 l), List.forall_mem_cons.mpr ⟨(coX14_397 l), q_nil⟩⟩⟩⟩, q_nil, q_nil, q_nil, q_nil, q_nil, (fun h => absurd h (by decide))⟩
set_option maxRecDepth 100000 in
set_option maxHeartbeats 4000000 in
theorem ctX14_contract (l : Launch) : q_CT l yX14_contract (.code yX14_contract cX14_contract 3 (some .int)) 1 0 0 spX14_contract := by
  refine q_ct_of EX14_contract (by decide +kernel) (okX14_contract l) rfl rfl rfl rfl rfl q_nil (fun ci h => by cases h) rfl ?_
  intro a w K h
  obtain ⟨th, tr, wh, fa, ta, sz, ix, so, pl, nu, wd, td, mk, mo, tx, P, D, ea, pa, co, S, Cc, V, ba, B, R, L, G, p, x, rfl, rfl, hD, hK⟩ := h
  refine ⟨Nat.le_of_ble_eq_true rfl, fun C hC => hC _ _ _ _ _ _ ?_⟩
  refine ⟨_, _, _, _, _, _, _, _, _, _, _, _, _, _, _, _, _, _, _, _, _, _, _, p, rfl, rfl, And.intro (fun c => ?_) (fun c => ?_)⟩
  rotate_left
  · have c : perB P p = false := bI_0.mp c
    rw [if_neg (by rw [c]; decide)] at hK
    exact ⟨_, _, _, _, _, _, _, _, _, _, _, _, _, _, _, _, _, _, _, _, _, _, _, _, rfl, rfl, hK⟩
  have c : perB P p = true := bI_n0.mp c
  rw [if_pos c] at hK
  refine ⟨x, 1, 999, rfl, rfl, And.intro (fun c3 => ?_) (fun c3 => ?_)⟩
  rotate_left
  · rw [if_pos (in_ex (of_decide_eq_false (bI_0.mp c3)))] at hK
    exact ⟨_, _, _, _, _, _, _, _, _, _, _, _, _, _, _, _, _, _, _, _, _, _, _, _, rfl, rfl, hK⟩
  rw [if_neg (in_nx (of_decide_eq_true (bI_n0.mp c3)))] at hK
  refine And.intro (fun c5 => ?_) (fun c5 => ?_)
  · have h9 : D.2.2.2 < 10 := by
      rcases Nat.lt_or_ge D.2.2.2 10 with z | z
      · exact z
      · exact absurd (show nI D.2.2.2 = nI 10 by rw [Nat.le_antisymm hD z]) c5
    rw [if_pos h9] at hK
    have hv : vp_in (nI D.2.2.2) 10 := vp_in_nI h9 (by omega)
    have hc : (nI D.2.2.2).toNatClampNeg = D.2.2.2 := nI_clamp (by omega)
    have hK : K (.inl (some (.int (nI (D.2.2.2 + 1) - 1)))) (modelW 0 (tk 0 5) (tk 0 6) (0) (0) (-1) fa ta sz ix so pl nu wd td mk mo tx P ((upd D.1 D.2.2.2 p, upd D.2.1 D.2.2.2 x, D.2.2.1, D.2.2.2 + 1)) ea pa co S Cc V ba B R L G) := by rw [nI_pred]; exact hK
    refine ⟨hv, hv, _, _, _, _, _, _, _, _, _, _, _, _, _, _, _, _, _, _, _, _, _, _, _, _, rfl, rfl, ?_⟩
    rw [hc, nI_1]
    exact hK
  · rw [if_neg (c := D.2.2.2 < 10) (fun z => nI_ne (b := 10) (by omega) (by omega) (by omega) c5)] at hK
    exact ⟨_, _, _, _, _, _, _, _, _, _, _, _, _, _, _, _, _, _, _, _, _, _, _, _, rfl, rfl, hK⟩
theorem updL_eq (f : Nat → Int64) (i : Nat) (v : Int64) : vp_updL f i v i = v := by rw [vp_updL, if_pos rfl]
def tX14_burn : List q_I := [(0, .aload_n 0, 1, 0, 0), (1, .iconst 0, 1, 0, 0), (2, .putfield 123, 3, 0, 0), (5, .iload_n 1, 1, 0, 0), (6, .ifCond .lt 11, 3, 0, 17), (9, .iload_n 1, 1, 0, 0), (10, .aload_n 0, 1, 0, 0), (11, .getfield 394, 3, 0, 0), (14, .if_icmp .lt 10, 3, 0, 24), (17, .aload_n 0, 1, 0, 0), (18, .iconst 1, 1, 1, 0), (19, .invokevirtual 365, 3, 0, 0), (22, .i2l, 1, 0, 0), (23, .lreturn, 1, 0, 0), (24, .iload_n 2, 1, 0, 0), (25, .iconst 1, 1, 1, 0), (26, .sipush 1000, 3, 1000, 0), (29, .invokestatic 207, 3, 0, 0), (32, .ifCond .ne 10, 3, 0, 42), (35, .aload_n 0, 1, 0, 0), (36, .iconst 2, 1, 2, 0), (37, .invokevirtual 365, 3, 0, 0), (40, .i2l, 1, 0, 0), (41, .lreturn, 1, 0, 0), (42, .aload_n 0, 1, 0, 0), (43, .getfield 43, 3, 0, 0), (46, .aload_n 0, 1, 0, 0), (47, .getfield 114, 3, 0, 0), (50, .iload_n 1, 1, 0, 0), (51, .iaload, 1, 0, 0), (52, .dup2, 1, 0, 0), (53, .laload, 1, 0, 0), (54, .aload_n 0, 1, 0, 0), (55, .getfield 117, 3, 0, 0), (58, .iload_n 1, 1, 0, 0), (59, .iaload, 1, 0, 0), (60, .i2l, 1, 0, 0), (61, .iload_n 2, 1, 0, 0), (62, .i2l, 1, 0, 0), (63, .lmul, 1, 0, 0), (64, .ladd, 1, 0, 0), (65, .lastore, 1, 0, 0), (66, .aload_n 0, 1, 0, 0), (67, .iconst 0, 1, 0, 0), (68, .invokevirtual 397, 3, 0, 0), (71, .i2l, 1, 0, 0), (72, .aload_n 0, 1, 0, 0), (73, .getfield 43, 3, 0, 0), (76, .aload_n 0, 1, 0, 0), (77, .getfield 114, 3, 0, 0), (80, .iload_n 1, 1, 0, 0), (81, .iaload, 1, 0, 0), (82, .laload, 1, 0, 0), (83, .ladd, 1, 0, 0), (84, .lreturn, 1, 0, 0)]
theorem tX14_burn_ok : (tX14_burn.all (q_okI cX14_burn)) = true := by decide +kernel

abbrev fdX14_burn : List (Nat ⊕ (Nat × Nat)) := [.inl 0, .inr (0, 7), .inr (0, 17), .inr (0, 18), .inr (0, 19), .inr (0, 20), .inr (0, 21), .inr (0, 22), .inr (0, 23), .inr (0, 26), .inr (0, 27), .inr (0, 28), .inr (0, 31), .inr (0, 32), .inr (0, 33), .inr (0, 34), .inr (0, 36), .inr (0, 37), .inr (0, 38), .inr (0, 39), .inr (0, 40), .inr (0, 41), .inr (0, 43), .inr (0, 44), .inr (0, 45), .inr (0, 46), .inr (0, 47), .inr (0, 48), .inr (0, 50), .inr (0, 51), .inr (0, 52), .inr (0, 4), .inr (31, 0), .inr (31, 1), .inr (31, 2), .inr (31, 3), .inr (31, 8), .inr (31, 9), .inr (31, 10), .inr (31, 11), .inr (31, 12), .inr (31, 13), .inr (31, 14), .inr (31, 15), .inr (31, 16), .inr (31, 17), .inr (31, 18), .inr (31, 19), .inr (31, 20), .inr (31, 21), .inr (31, 22), .inr (31, 23), .inr (31, 24), .inr (31, 25), .inr (31, 26), .inr (31, 27), .inr (31, 28)]
def spX14_burn : q_P := fun a w K => ∃ (th : Int32) (tr : Int32) (wh : Int32) (fa : Int32) (ta : Nat) (sz : Int32) (ix : Int32) (so : Int32) (pl : Int32) (nu : Int32) (wd : Int64) (td : Int32) (mk : Int32) (mo : Int32) (tx : Nat → Int32) (P : PT) (D : DT) (ea : Nat → Int32) (pa : Nat → Int32) (co : Nat → Int32) (S : ST) (Cc : CT) (V : VT) (ba : Nat → Int32) (B : BT) (R : RT) (L : LT) (G : GT) (i u : Int32), w = (modelW 0 (tk 0 5) (tk 0 6) th tr wh fa ta sz ix so pl nu wd td mk mo tx P D ea pa co S Cc V ba B R L G) ∧ a = [.ref 0, .int i, .int u] ∧ dNm D 30 ∧ (if conB D i = true then (if u < 1 ∨ 1000 < u then K (.inl (some (.long (-1)))) (modelW 0 (tk 0 5) (tk 0 6) (0) (2) (-1) fa ta sz ix so pl nu wd td mk mo tx P D ea pa co S Cc V ba B R L G) else K (.inl (some (.long (debF D i.toNatClampNeg u)))) (modelW 0 (tk 0 5) (tk 0 6) (0) (0) (-1) fa ta sz ix so pl nu wd td mk mo tx P ((D.1, D.2.1, vp_updL D.2.2.1 (D.1 i.toNatClampNeg).toNatClampNeg (debF D i.toNatClampNeg u), D.2.2.2)) ea pa co S Cc V ba B R L G)) else K (.inl (some (.long (-1)))) (modelW 0 (tk 0 5) (tk 0 6) (0) (1) (-1) fa ta sz ix so pl nu wd td mk mo tx P D ea pa co S Cc V ba B R L G))
abbrev csX14_burn : q_S := (3, 14, 1, 3, 0, 0, fdX14_burn, spX14_burn)
def EX14_burn : q_E := (tX14_burn, [], 3, flX14, [(365, csX14_refused), (207, csX14_in), (397, csX14_done)], [], [], [], [], [], 1, 0, 0, (some .long), [], [], 0, 0)
theorem okX14_burn (l : Launch) : q_Eok l RX14 cX14_burn EX14_burn := ⟨tX14_burn_ok, flX14_ok, List.forall_mem_cons.mpr ⟨(coX14_365 l), List.forall_mem_cons.mpr ⟨(coX14_207 l), List.forall_mem_cons.mpr ⟨(coX14_397 l), q_nil⟩⟩⟩, q_nil, q_nil, q_nil, q_nil, q_nil, (fun h => absurd h (by decide))⟩
set_option maxRecDepth 100000 in
set_option maxHeartbeats 4000000 in
theorem ctX14_burn (l : Launch) : q_CT l yX14_burn (.code yX14_burn cX14_burn 3 (some .long)) 1 0 0 spX14_burn := by
  refine q_ct_of EX14_burn (by decide +kernel) (okX14_burn l) rfl rfl rfl rfl rfl q_nil (fun ci h => by cases h) rfl ?_
  intro a w K h
  obtain ⟨th, tr, wh, fa, ta, sz, ix, so, pl, nu, wd, td, mk, mo, tx, P, D, ea, pa, co, S, Cc, V, ba, B, R, L, G, i, u, rfl, rfl, hD, hK⟩ := h
  refine ⟨Nat.le_of_ble_eq_true rfl, fun C hC => hC _ _ _ _ _ _ ?_⟩
  refine And.intro (fun c => ?_) (fun c => And.intro (fun c2 => ?_) (fun c2 => ?_))
  · rw [show conB D i = false from decide_eq_false (fun z => absurd c (Int32.not_lt.mpr z.1))] at hK
    exact ⟨_, _, _, _, _, _, _, _, _, _, _, _, _, _, _, _, _, _, _, _, _, _, _, _, rfl, rfl, hK⟩
  · have c9 := And.intro (Int32.not_lt.mp c) c2
    rw [show conB D i = true from decide_eq_true c9] at hK
    have hK : if u < 1 ∨ 1000 < u then K (.inl (some (.long (-1)))) (modelW 0 (tk 0 5) (tk 0 6) (0) (2) (-1) fa ta sz ix so pl nu wd td mk mo tx P D ea pa co S Cc V ba B R L G) else K (.inl (some (.long (debF D i.toNatClampNeg u)))) (modelW 0 (tk 0 5) (tk 0 6) (0) (0) (-1) fa ta sz ix so pl nu wd td mk mo tx P ((D.1, D.2.1, vp_updL D.2.2.1 (D.1 i.toNatClampNeg).toNatClampNeg (debF D i.toNatClampNeg u), D.2.2.2)) ea pa co S Cc V ba B R L G) := hK
    refine ⟨u, 1, 1000, rfl, rfl, And.intro (fun c3 => ?_) (fun c3 => ?_)⟩
    · rw [if_neg (in_nx (of_decide_eq_true (bI_n0.mp c3)))] at hK
      obtain ⟨i, rfl, hi⟩ := inI (by have := hD.1; omega) c9
      obtain ⟨q, hq, hqn⟩ := hD.2 i hi
      have hci : (nI i).toNatClampNeg = i := nI_clamp (by have := hD.1; omega)
      have hv : vp_in (nI i) 10 := vp_in_nI (by have := hD.1; omega) (by omega)
      have hvq : vp_in (D.1 (nI i).toNatClampNeg) 30 := by rw [hci, hq]; exact vp_in_nI hqn (by omega)
      refine ⟨hv, hvq, hv, hvq, _, _, _, _, _, _, _, _, _, _, _, _, _, _, _, _, _, _, _, _, _, _, _, _, rfl, rfl, hv, hvq, ?_⟩
      rw [updL_eq]
      show K (.inl (some (.long ((0 : Int32).toInt64 + _)))) _
      rw [show (0 : Int32).toInt64 = 0 by decide, Int64.zero_add]
      exact hK
    · rw [if_pos (in_ex (of_decide_eq_false (bI_0.mp c3)))] at hK
      exact ⟨_, _, _, _, _, _, _, _, _, _, _, _, _, _, _, _, _, _, _, _, _, _, _, _, rfl, rfl, hK⟩
  · rw [show conB D i = false from decide_eq_false (fun z => c2 z.2)] at hK
    exact ⟨_, _, _, _, _, _, _, _, _, _, _, _, _, _, _, _, _, _, _, _, _, _, _, _, rfl, rfl, hK⟩
def tX14_rename : List q_I := [(0, .aload_n 0, 1, 0, 0), (1, .iconst 0, 1, 0, 0), (2, .putfield 123, 3, 0, 0), (5, .iload_n 1, 1, 0, 0), (6, .ifCond .lt 19, 3, 0, 25), (9, .iload_n 1, 1, 0, 0), (10, .aload_n 0, 1, 0, 0), (11, .getfield 394, 3, 0, 0), (14, .if_icmp .ge 11, 3, 0, 25), (17, .aload_n 0, 1, 0, 0), (18, .iload_n 2, 1, 0, 0), (19, .invokevirtual 417, 3, 0, 0), (22, .ifCond .ne 9, 3, 0, 31), (25, .aload_n 0, 1, 0, 0), (26, .iconst 1, 1, 1, 0), (27, .invokevirtual 424, 3, 0, 0), (30, .ireturn, 1, 0, 0), (31, .aload_n 0, 1, 0, 0), (32, .getfield 114, 3, 0, 0), (35, .iload_n 1, 1, 0, 0), (36, .iaload, 1, 0, 0), (37, .iload_n 2, 1, 0, 0), (38, .if_icmp .ne 9, 3, 0, 47), (41, .aload_n 0, 1, 0, 0), (42, .iconst 5, 1, 5, 0), (43, .invokevirtual 424, 3, 0, 0), (46, .ireturn, 1, 0, 0), (47, .aload_n 0, 1, 0, 0), (48, .getfield 114, 3, 0, 0), (51, .iload_n 1, 1, 0, 0), (52, .iload_n 2, 1, 0, 0), (53, .iastore, 1, 0, 0), (54, .aload_n 0, 1, 0, 0), (55, .invokevirtual 427, 3, 0, 0), (58, .ireturn, 1, 0, 0)]
theorem tX14_rename_ok : (tX14_rename.all (q_okI cX14_rename)) = true := by decide +kernel

abbrev fdX14_rename : List (Nat ⊕ (Nat × Nat)) := [.inl 0, .inr (0, 7), .inr (0, 17), .inr (0, 18), .inr (0, 19), .inr (0, 20), .inr (0, 21), .inr (0, 22), .inr (0, 23), .inr (0, 26), .inr (0, 27), .inr (0, 28), .inr (0, 31), .inr (0, 32), .inr (0, 33), .inr (0, 34), .inr (0, 36), .inr (0, 37), .inr (0, 38), .inr (0, 39), .inr (0, 40), .inr (0, 41), .inr (0, 43), .inr (0, 44), .inr (0, 45), .inr (0, 46), .inr (0, 47), .inr (0, 48), .inr (0, 50), .inr (0, 51), .inr (0, 52), .inr (0, 4), .inr (31, 0), .inr (31, 1), .inr (31, 2), .inr (31, 3), .inr (31, 8), .inr (31, 9), .inr (31, 10), .inr (31, 11), .inr (31, 12), .inr (31, 13), .inr (31, 14), .inr (31, 15), .inr (31, 16), .inr (31, 17), .inr (31, 18), .inr (31, 19), .inr (31, 20), .inr (31, 21), .inr (31, 22), .inr (31, 23), .inr (31, 24), .inr (31, 25), .inr (31, 26), .inr (31, 27), .inr (31, 28)]
def spX14_rename : q_P := fun a w K => ∃ (th : Int32) (tr : Int32) (wh : Int32) (fa : Int32) (ta : Nat) (sz : Int32) (ix : Int32) (so : Int32) (pl : Int32) (nu : Int32) (wd : Int64) (td : Int32) (mk : Int32) (mo : Int32) (tx : Nat → Int32) (P : PT) (D : DT) (ea : Nat → Int32) (pa : Nat → Int32) (co : Nat → Int32) (S : ST) (Cc : CT) (V : VT) (ba : Nat → Int32) (B : BT) (R : RT) (L : LT) (G : GT) (i p : Int32), w = (modelW 0 (tk 0 5) (tk 0 6) th tr wh fa ta sz ix so pl nu wd td mk mo tx P D ea pa co S Cc V ba B R L G) ∧ a = [.ref 0, .int i, .int p] ∧ D.2.2.2 ≤ 10 ∧ (if (conB D i && perB P p) = true then (if D.1 i.toNatClampNeg = p then K (.inl (some (.int 0))) (modelW 0 (tk 0 5) (tk 0 6) (0) (5) (-1) fa ta sz ix so pl nu wd td mk mo tx P D ea pa co S Cc V ba B R L G) else K (.inl (some (.int 1))) (modelW 0 (tk 0 5) (tk 0 6) (0) (0) (-1) fa ta sz ix so pl nu wd td mk mo tx P ((upd D.1 i.toNatClampNeg p, D.2)) ea pa co S Cc V ba B R L G)) else K (.inl (some (.int 0))) (modelW 0 (tk 0 5) (tk 0 6) (0) (1) (-1) fa ta sz ix so pl nu wd td mk mo tx P D ea pa co S Cc V ba B R L G))
abbrev csX14_rename : q_S := (3, 14, 1, 3, 0, 0, fdX14_rename, spX14_rename)
def EX14_rename : q_E := (tX14_rename, [], 3, flX14, [(417, csX14_isPerson), (424, csX14_denied), (427, csX14_granted)], [], [], [], [], [], 1, 0, 0, (some .boolean), [], [], 0, 0)
theorem okX14_rename (l : Launch) : q_Eok l RX14 cX14_rename EX14_rename := ⟨tX14_rename_ok, flX14_ok, List.forall_mem_cons.mpr ⟨(coX14_417 l), List.forall_mem_cons.mpr ⟨(coX14_424 l), List.forall_mem_cons.mpr ⟨(coX14_427 l), q_nil⟩⟩⟩, q_nil, q_nil, q_nil, q_nil, q_nil, (fun h => absurd h (by decide))⟩
set_option maxRecDepth 100000 in
set_option maxHeartbeats 4000000 in
theorem ctX14_rename (l : Launch) : q_CT l yX14_rename (.code yX14_rename cX14_rename 3 (some .boolean)) 1 0 0 spX14_rename := by
  refine q_ct_of EX14_rename (by decide +kernel) (okX14_rename l) rfl rfl rfl rfl rfl q_nil (fun ci h => by cases h) rfl ?_
  intro a w K h
  obtain ⟨th, tr, wh, fa, ta, sz, ix, so, pl, nu, wd, td, mk, mo, tx, P, D, ea, pa, co, S, Cc, V, ba, B, R, L, G, i, p, rfl, rfl, hD, hK⟩ := h
  refine ⟨Nat.le_of_ble_eq_true rfl, fun C hC => hC _ _ _ _ _ _ ?_⟩
  refine And.intro (fun c => ?_) (fun c => And.intro (fun c2 => ?_) (fun c2 => ?_))
  · rw [show conB D i = false from decide_eq_false (fun z => absurd c (Int32.not_lt.mpr z.1))] at hK
    exact ⟨_, _, _, _, _, _, _, _, _, _, _, _, _, _, _, _, _, _, _, _, _, _, _, _, rfl, rfl, rfl, hK⟩
  · rw [show conB D i = false from decide_eq_false (fun z => absurd z.2 (Int32.not_lt.mpr c2))] at hK
    exact ⟨_, _, _, _, _, _, _, _, _, _, _, _, _, _, _, _, _, _, _, _, _, _, _, _, rfl, rfl, rfl, hK⟩
  · have c9 := And.intro (Int32.not_lt.mp c) (Int32.not_le.mp c2)
    rw [show conB D i = true from decide_eq_true c9, Bool.true_and] at hK
    refine ⟨_, _, _, _, _, _, _, _, _, _, _, _, _, _, _, _, _, _, _, _, _, _, _, p, rfl, rfl, And.intro (fun c3 => ?_) (fun c3 => ?_)⟩
    · have c3 : perB P p = true := bI_n0.mp c3
      rw [if_pos c3] at hK
      obtain ⟨i, rfl, hi⟩ := inI (by omega) c9
      have hv : vp_in (nI i) 10 := vp_in_nI (by omega) (by omega)
      refine ⟨hv, And.intro (fun c4 => ?_) (fun c4 => ?_)⟩
      · rw [if_neg c4] at hK
        exact ⟨hv, _, _, _, _, _, _, _, _, _, _, _, _, _, _, _, _, _, _, _, _, _, _, _, rfl, rfl, rfl, hK⟩
      · rw [if_pos c4] at hK
        exact ⟨_, _, _, _, _, _, _, _, _, _, _, _, _, _, _, _, _, _, _, _, _, _, _, _, rfl, rfl, rfl, hK⟩
    · have c3 : perB P p = false := bI_0.mp c3
      rw [if_neg (by rw [c3]; decide)] at hK
      exact ⟨_, _, _, _, _, _, _, _, _, _, _, _, _, _, _, _, _, _, _, _, _, _, _, _, rfl, rfl, rfl, hK⟩
def tX14_owed : List q_I := [(0, .aload_n 0, 1, 0, 0), (1, .iconst 0, 1, 0, 0), (2, .putfield 123, 3, 0, 0), (5, .aload_n 0, 1, 0, 0), (6, .iload_n 1, 1, 0, 0), (7, .invokevirtual 417, 3, 0, 0), (10, .ifCond .eq 12, 3, 0, 22), (13, .aload_n 0, 1, 0, 0), (14, .getfield 43, 3, 0, 0), (17, .iload_n 1, 1, 0, 0), (18, .laload, 1, 0, 0), (19, .goto 6, 3, 0, 25), (22, .ldc2_w 499, 3, 0, 0), (25, .lreturn, 1, 0, 0)]
theorem tX14_owed_ok : (tX14_owed.all (q_okI cX14_owed)) = true := by decide +kernel

abbrev fdX14_owed : List (Nat ⊕ (Nat × Nat)) := [.inl 0, .inr (0, 7), .inr (0, 17), .inr (0, 18), .inr (0, 19), .inr (0, 20), .inr (0, 21), .inr (0, 22), .inr (0, 23), .inr (0, 26), .inr (0, 27), .inr (0, 28), .inr (0, 31), .inr (0, 32), .inr (0, 33), .inr (0, 34), .inr (0, 36), .inr (0, 37), .inr (0, 38), .inr (0, 39), .inr (0, 40), .inr (0, 41), .inr (0, 43), .inr (0, 44), .inr (0, 45), .inr (0, 46), .inr (0, 47), .inr (0, 48), .inr (0, 50), .inr (0, 51), .inr (0, 52), .inr (0, 4), .inr (31, 0), .inr (31, 1), .inr (31, 2), .inr (31, 3), .inr (31, 8), .inr (31, 9), .inr (31, 10), .inr (31, 11), .inr (31, 12), .inr (31, 13), .inr (31, 14), .inr (31, 15), .inr (31, 16), .inr (31, 17), .inr (31, 18), .inr (31, 19), .inr (31, 20), .inr (31, 21), .inr (31, 22), .inr (31, 23), .inr (31, 24), .inr (31, 25), .inr (31, 26), .inr (31, 27), .inr (31, 28)]
def spX14_owed : q_P := fun a w K => ∃ (th : Int32) (tr : Int32) (wh : Int32) (fa : Int32) (ta : Nat) (sz : Int32) (ix : Int32) (so : Int32) (pl : Int32) (nu : Int32) (wd : Int64) (td : Int32) (mk : Int32) (mo : Int32) (tx : Nat → Int32) (P : PT) (D : DT) (ea : Nat → Int32) (pa : Nat → Int32) (co : Nat → Int32) (S : ST) (Cc : CT) (V : VT) (ba : Nat → Int32) (B : BT) (R : RT) (L : LT) (G : GT) (p : Int32), w = (modelW 0 (tk 0 5) (tk 0 6) th tr wh fa ta sz ix so pl nu wd td mk mo tx P D ea pa co S Cc V ba B R L G) ∧ a = [.ref 0, .int p] ∧ pOk P ∧ K (.inl (some (.long (if perB P p = true then D.2.2.1 p.toNatClampNeg else -1)))) (modelW 0 (tk 0 5) (tk 0 6) (0) tr wh fa ta sz ix so pl nu wd td mk mo tx P D ea pa co S Cc V ba B R L G)
abbrev csX14_owed : q_S := (2, 14, 1, 2, 0, 0, fdX14_owed, spX14_owed)
def EX14_owed : q_E := (tX14_owed, [], 2, flX14, [(417, csX14_isPerson)], [(499, -1)], [], [], [], [], 1, 0, 0, (some .long), [], [], 0, 0)
theorem okX14_owed (l : Launch) : q_Eok l RX14 cX14_owed EX14_owed := ⟨tX14_owed_ok, flX14_ok, List.forall_mem_cons.mpr ⟨(coX14_417 l), q_nil⟩, List.forall_mem_cons.mpr ⟨q_G_i 1920 (by decide +kernel) rfl, q_nil⟩, q_nil, q_nil, q_nil, q_nil, (fun h => absurd h (by decide))⟩
set_option maxRecDepth 100000 in
set_option maxHeartbeats 4000000 in
theorem ctX14_owed (l : Launch) : q_CT l yX14_owed (.code yX14_owed cX14_owed 2 (some .long)) 1 0 0 spX14_owed := by
  refine q_ct_of EX14_owed (by decide +kernel) (okX14_owed l) rfl rfl rfl rfl rfl q_nil (fun ci h => by cases h) rfl ?_
  intro a w K h
  obtain ⟨th, tr, wh, fa, ta, sz, ix, so, pl, nu, wd, td, mk, mo, tx, P, D, ea, pa, co, S, Cc, V, ba, B, R, L, G, p, rfl, rfl, ho, hK⟩ := h
  refine ⟨Nat.le_of_ble_eq_true rfl, fun C hC => hC _ _ _ _ _ _ ?_⟩
  refine ⟨_, _, _, _, _, _, _, _, _, _, _, _, _, _, _, _, _, _, _, _, _, _, _, p, rfl, rfl, And.intro (fun c => ?_) (fun c => ?_)⟩
  · have c : perB P p = false := bI_0.mp c
    rw [c] at hK
    exact hK
  · have c : perB P p = true := bI_n0.mp c
    rw [c, if_pos rfl] at hK
    obtain ⟨p, rfl, hp, hcp⟩ := perI ho c
    exact ⟨vp_in_nI (by have := ho.1; omega) (by omega), hK⟩
