def nwB (P : PT) (L : LT) (k d : Int32) (n p : Nat) : Bool := hasLast P p k d && decide (landsG P L p k d n = 0)
def nwF (P : PT) (L : LT) (k d : Int32) (n : Nat) : Nat → Nat
  | 0 => 0
  | p + 1 => nwF P L k d n p + (if nwB P L k d n p then 1 else 0)

def tX11_nowhere : List q_I := [(0, .aload_n 0, 1, 0, 0), (1, .getfield 16, 3, 0, 0), (4, .iconst 3, 1, 3, 0), (5, .iload_n 1, 1, 0, 0), (6, .invokevirtual 145, 3, 0, 0), (9, .ifCond .ne 9, 3, 0, 18), (12, .aload_n 0, 1, 0, 0), (13, .iconst 1, 1, 1, 0), (14, .invokevirtual 84, 3, 0, 0), (17, .ireturn, 1, 0, 0), (18, .iload_n 2, 1, 0, 0), (19, .invokestatic 152, 3, 0, 0), (22, .ifCond .ne 9, 3, 0, 31), (25, .aload_n 0, 1, 0, 0), (26, .iconst 2, 1, 2, 0), (27, .invokevirtual 84, 3, 0, 0), (30, .ireturn, 1, 0, 0), (31, .iconst 0, 1, 0, 0), (32, .istore_n 3, 1, 0, 0), (33, .iconst 0, 1, 0, 0), (34, .istore 4, 2, 0, 0), (36, .iload 4, 2, 0, 0), (38, .aload_n 0, 1, 0, 0), (39, .getfield 35, 3, 0, 0), (42, .getfield 123, 3, 0, 0), (45, .if_icmp .ge 44, 3, 0, 89), (48, .aload_n 0, 1, 0, 0), (49, .getfield 35, 3, 0, 0), (52, .iload 4, 2, 0, 0), (54, .iload_n 1, 1, 0, 0), (55, .iload_n 2, 1, 0, 0), (56, .invokevirtual 200, 3, 0, 0), (59, .ifCond .eq 24, 3, 0, 83), (62, .aload_n 0, 1, 0, 0), (63, .getfield 35, 3, 0, 0), (66, .iload 4, 2, 0, 0), (68, .iload_n 1, 1, 0, 0), (69, .iload_n 2, 1, 0, 0), (70, .aload_n 0, 1, 0, 0), (71, .getfield 16, 3, 0, 0), (74, .invokevirtual 196, 3, 0, 0), (77, .ifCond .ne 6, 3, 0, 83), (80, .iinc 3 1, 3, 1, 0), (83, .iinc 4 1, 3, 1, 0), (86, .goto (-50), 3, 0, 36), (89, .aload_n 0, 1, 0, 0), (90, .iload_n 3, 1, 0, 0), (91, .invokevirtual 113, 3, 0, 0), (94, .ireturn, 1, 0, 0)]
theorem tX11_nowhere_ok : (tX11_nowhere.all (q_okI cX11_nowhere)) = true := by decide +kernel

abbrev fdX11_nowhere : List (Nat ⊕ (Nat × Nat)) := [.inl 0, .inr (0, 0), .inr (0, 2), .inr (2, 0), .inr (2, 1), .inr (2, 2), .inr (2, 3), .inr (2, 5), .inr (7, 0), .inr (7, 1), .inr (7, 2), .inr (7, 3), .inr (7, 4), .inr (7, 5), .inr (7, 6), .inr (2, 6), .inr (15, 0), .inr (15, 1), .inr (15, 2), .inr (15, 3), .inr (15, 4), .inr (15, 5), .inr (15, 6), .inr (2, 7), .inr (23, 0), .inr (23, 1), .inr (23, 2), .inr (23, 3), .inr (23, 4), .inr (23, 5), .inr (23, 6), .inr (23, 7), .inr (0, 3), .inr (32, 0), .inr (32, 1), .inr (32, 2), .inr (32, 3), .inr (32, 5), .inr (37, 0), .inr (37, 1), .inr (37, 2), .inr (37, 3), .inr (37, 4), .inr (37, 5), .inr (37, 6), .inr (32, 6), .inr (45, 0), .inr (45, 1), .inr (45, 2), .inr (45, 3), .inr (45, 4), .inr (45, 5), .inr (45, 6), .inr (32, 7), .inr (53, 0), .inr (53, 1), .inr (53, 2), .inr (53, 3), .inr (53, 4), .inr (53, 5), .inr (53, 6), .inr (53, 7), .inr (0, 4), .inr (62, 2), .inr (0, 7), .inr (64, 0), .inr (64, 1), .inr (64, 2), .inr (64, 3), .inr (64, 4), .inr (64, 5), .inr (0, 8), .inr (71, 1), .inr (71, 2), .inr (71, 3), .inr (71, 4), .inr (71, 5), .inr (71, 6), .inr (0, 9), .inr (78, 0), .inr (78, 1), .inr (78, 2), .inr (78, 3), .inr (78, 4), .inr (0, 10), .inr (84, 0), .inr (84, 1), .inr (84, 2), .inr (84, 3), .inr (84, 4), .inr (84, 5), .inr (84, 6), .inr (0, 11), .inr (92, 0), .inr (92, 1), .inr (92, 2), .inr (92, 3), .inr (92, 4), .inr (92, 5), .inr (0, 12), .inr (99, 0), .inr (99, 1), .inr (99, 2)]
def spX11_nowhere : q_P := fun a w K => ∃ (tl : Nat) (hb : Bool) (td : Int32) (tr : Int32) (lf : Int32) (tx : Nat → Int32) (rb : Value) (N : NT) (B : BT) (R : RT) (L : LT) (G : GT) (B2 : BT) (R2 : RT) (L2 : LT) (G2 : GT) (P : PT) (W : WT) (S : ST) (Cc : CT) (Y : YT) (D : DT) (n : Nat) (k d : Int32), w = (stripW 0 tl hb td tr lf tx rb N B R L G B2 R2 L2 G2 P W S Cc Y D) ∧ a = [.ref 0, .int k, .int d] ∧ pOk P ∧ L_n L ≤ 24 ∧ B.1 1 = nI n ∧ n ≤ 5 ∧ (if toldB B.1 3 k = true then (if dayB d = true then K (.inl (some (.int (nI (nwF P L k d n P.2.2.2.2.2.2))))) (stripW 0 tl hb td (0) lf tx rb N B R L G B2 R2 L2 G2 P W S Cc Y D) else K (.inl (some (.int (-1)))) (stripW 0 tl hb td (2) lf tx rb N B R L G B2 R2 L2 G2 P W S Cc Y D)) else K (.inl (some (.int (-1)))) (stripW 0 tl hb td (1) lf tx rb N B R L G B2 R2 L2 G2 P W S Cc Y D))
abbrev csX11_nowhere : q_S := (3, 11, 4, 5, 0, 0, fdX11_nowhere, spX11_nowhere)
theorem coX11_200 (l : Launch) : q_CO l RX11 200 csX6_hasLasting := ⟨yX6_hasLasting, cX6_hasLasting, (some .boolean), 3, ⟨by decide +kernel, by decide +kernel, by decide +kernel⟩, q_G_i 11 (by decide +kernel) rfl, Or.inl ⟨by decide, rfl, rfl, q_G_i 846 (by decide +kernel) rfl, q_G_i 847 (by decide +kernel) rfl, q_G_i 848 (by decide +kernel) rfl, Or.inl ⟨q_G_i 849 (by decide +kernel) rfl, ctX6_hasLasting l⟩⟩⟩
def EX11_nowhere : q_E := (tX11_nowhere, [(36, [0, 1, 2, 3, 4])], 5, flX11, [(145, csX0_has), (84, csX11_refuse), (152, csX11_isDay), (200, csX6_hasLasting), (196, csX6_goodLands), (113, csX11_grant)], [], [], [], [], [], 4, 0, 0, (some .int), [], [], 0, 0)
theorem okX11_nowhere (l : Launch) : q_Eok l RX11 cX11_nowhere EX11_nowhere := ⟨tX11_nowhere_ok, flX11_ok, List.forall_mem_cons.mpr ⟨(coX11_145 l), List.forall_mem_cons.mpr ⟨(coX11_84 l), List.forall_mem_cons.mpr ⟨(coX11_152 l), List.forall_mem_cons.mpr ⟨(coX11_200 l), List.forall_mem_cons.mpr ⟨(coX11_196 l), List.forall_mem_cons.mpr ⟨(coX11_113 l), q_nil⟩⟩⟩⟩⟩⟩, q_nil, q_nil, q_nil, q_nil, q_nil, (fun h => absurd h (by decide))⟩
set_option maxRecDepth 100000 in
set_option maxHeartbeats 4000000 in
theorem ctX11_nowhere (l : Launch) : q_CT l yX11_nowhere (.code yX11_nowhere cX11_nowhere 5 (some .int)) 4 0 0 spX11_nowhere := by
  refine q_ct_of EX11_nowhere (by decide +kernel) (okX11_nowhere l) rfl rfl rfl rfl rfl q_nil (fun ci h => by cases h) rfl ?_
  intro a w K h
  obtain ⟨tl, hb, td, tr, lf, tx, rb, N, B, R, L, G, B2, R2, L2, G2, P, W, S, Cc, Y, D, n, k, d, rfl, rfl, ho, hL, hB, hn, hK⟩ := h
  refine ⟨Nat.le_of_ble_eq_true rfl, fun C hC => hC _ _ _ _ _ _ ?_⟩
  have hpc := ho.1
  refine ⟨B.1, 3, k, _, _, _, _, _, _, _, rfl, rfl, by decide, And.intro (fun c => ?_) (fun c => ?_)⟩
  · have c : toldB B.1 3 k = true := bI_n0.mp c
    rw [if_pos c] at hK
    refine ⟨d, rfl, rfl, And.intro (fun c2 => ?_) (fun c2 => ?_)⟩
    · have c2 : dayB d = true := bI_n0.mp c2
      rw [if_pos c2] at hK
      have loop : ∀ j i, i + j = P.2.2.2.2.2.2 → C 36 [(0, .ref 0), (1, .int k), (2, .int d), (3, .int (nI (nwF P L k d n i))), (4, .int (nI i))] [] (stripW 0 tl hb td tr lf tx rb N B R L G B2 R2 L2 G2 P W S Cc Y D) 0 0 := by
        intro j
        induction j with
        | zero =>
          intro i hi
          have hi : i = P.2.2.2.2.2.2 := hi
          subst hi
          refine hC _ _ _ _ _ _ (And.intro (fun c3 => ⟨_, _, _, _, _, _, rfl, rfl, hK⟩) (fun c3 => absurd (nI_le (Nat.le_refl _) (by omega)) c3))
        | succ j ih =>
          intro i hi
          have h9 := ih (i + 1) (by omega)
          rw [nwF] at h9
          refine hC _ _ _ _ _ _ (And.intro (fun c3 => absurd c3 (nI_ge (by omega) (by omega))) (fun c3 => ⟨P, i, k, d, rfl, rfl, ho, by omega, And.intro (fun c4 => ?_) (fun c4 => ?_)⟩))
          · rw [nwB, bI_0.mp c4] at h9
            rw [← nI_1] at h9
            exact h9
          · rw [nwB, bI_n0.mp c4, Bool.true_and] at h9
            refine ⟨P, L, B.1, n, i, k, d, _, _, _, _, _, _, rfl, rfl, ho, hL, by omega, hB, hn, And.intro (fun c5 => ?_) (fun c5 => ?_)⟩
            · rw [decide_eq_false c5] at h9
              rw [← nI_1] at h9
              exact h9
            · rw [if_pos (decide_eq_true c5), ← nI_1, ← nI_1] at h9
              exact h9
      exact loop P.2.2.2.2.2.2 0 (by omega)
    · have c2 : dayB d = false := bI_0.mp c2
      rw [c2] at hK
      exact ⟨_, _, _, _, _, _, rfl, rfl, hK⟩
  · have c : toldB B.1 3 k = false := bI_0.mp c
    rw [c] at hK
    exact ⟨_, _, _, _, _, _, rfl, rfl, hK⟩
/-- the strip's own object and its tape -/
def stripTp (tl : Nat) (hb td tr lf : Int32) (tx : Nat → Int32) : List q_C := [.inr (11, [.ref 1, .int (nI tl), tk 0 2, tk 0 3, tk 0 4, .int hb, .int td, tk 0 7, tk 0 8, tk 0 9, tk 0 10, tk 0 11, tk 0 12, .int tr, .int lf]), .inl (0, 700, .inl tx)]
def byI (x s : Int32) : Int32 := vp_nar .byte ((x >>> (s &&& 31)).toInt8.toInt32)
def put4 (tx : Nat → Int32) (tl : Nat) (x : Int32) : Nat → Int32 := upd (upd (upd (upd tx tl (byI x 24)) (tl + 1) (byI x 16)) (tl + 2) (byI x 8)) (tl + 3) (byI x 0)
def tX11_putBytes : List q_I := [(0, .bipush 24, 2, 24, 0), (2, .istore_n 2, 1, 0, 0), (3, .iload_n 2, 1, 0, 0), (4, .ifCond .lt 42, 3, 0, 46), (7, .aload_n 0, 1, 0, 0), (8, .getfield 76, 3, 0, 0), (11, .sipush 700, 3, 700, 0), (14, .if_icmp .ge 26, 3, 0, 40), (17, .aload_n 0, 1, 0, 0), (18, .getfield 9, 3, 0, 0), (21, .aload_n 0, 1, 0, 0), (22, .getfield 76, 3, 0, 0), (25, .iload_n 1, 1, 0, 0), (26, .iload_n 2, 1, 0, 0), (27, .ishr, 1, 0, 0), (28, .i2b, 1, 0, 0), (29, .bastore, 1, 0, 0), (30, .aload_n 0, 1, 0, 0), (31, .dup, 1, 0, 0), (32, .getfield 76, 3, 0, 0), (35, .iconst 1, 1, 1, 0), (36, .iadd, 1, 0, 0), (37, .putfield 76, 3, 0, 0), (40, .iinc 2 (-8), 3, (-8), 0), (43, .goto (-40), 3, 0, 3), (46, .return_, 1, 0, 0)]
theorem tX11_putBytes_ok : (tX11_putBytes.all (q_okI cX11_putBytes)) = true := by decide +kernel

abbrev fdX11_putBytes : List (Nat ⊕ (Nat × Nat)) := [.inl 0, .inr (0, 0)]
def spX11_putBytes : q_P := fun a w K => ∃ (tl : Nat) (hb td tr lf : Int32) (tx : Nat → Int32) (x : Int32), w = stripTp tl hb td tr lf tx ∧ a = [.ref 0, .int x] ∧ tl + 4 ≤ 700 ∧ K (.inl none) (stripTp (tl + 4) hb td tr lf (put4 tx tl x))
abbrev csX11_putBytes : q_S := (2, 11, 0, 3, 0, 0, fdX11_putBytes, spX11_putBytes)
def EX11_putBytes : q_E := (tX11_putBytes, [], 3, flX11, [], [], [], [], [], [], 0, 0, 0, none, [], [], 0, 0)
theorem okX11_putBytes (l : Launch) : q_Eok l RX11 cX11_putBytes EX11_putBytes := ⟨tX11_putBytes_ok, flX11_ok, q_nil, q_nil, q_nil, q_nil, q_nil, q_nil, (fun h => absurd h (by decide))⟩
set_option maxRecDepth 100000 in
set_option maxHeartbeats 4000000 in
theorem ctX11_putBytes (l : Launch) : q_CT l yX11_putBytes (.code yX11_putBytes cX11_putBytes 3 none) 0 0 0 spX11_putBytes := by
  refine q_ct_of EX11_putBytes (by decide +kernel) (okX11_putBytes l) rfl rfl rfl rfl rfl q_nil (fun ci h => by cases h) rfl ?_
  intro a w K h
  obtain ⟨tl, hb, td, tr, lf, tx, x, rfl, rfl, ht, hK⟩ := h
  have e1 : nI tl + 1 = nI (tl + 1) := nI_1 _
  have e2 : nI (tl + 1) + 1 = nI (tl + 2) := nI_1 _
  have e3 : nI (tl + 2) + 1 = nI (tl + 3) := nI_1 _
  have e4 : nI (tl + 3) + 1 = nI (tl + 4) := nI_1 _
  have d0 : (nI tl).toNatClampNeg = tl := nI_clamp (by omega)
  have d1 : (nI (tl + 1)).toNatClampNeg = tl + 1 := nI_clamp (by omega)
  have d2 : (nI (tl + 2)).toNatClampNeg = tl + 2 := nI_clamp (by omega)
  have d3 : (nI (tl + 3)).toNatClampNeg = tl + 3 := nI_clamp (by omega)
  refine ⟨Nat.le_of_ble_eq_true rfl, fun C hC => hC _ _ _ _ _ _ ?_⟩
  refine And.intro (fun c => absurd c (by decide)) (fun _ => And.intro (fun c => absurd c (nI_ge (b := 700) (by omega) (by omega))) (fun _ => ⟨vp_in_nI (by omega) (by omega), ?_⟩))
  refine And.intro (fun c => absurd c (by decide)) (fun _ => And.intro (fun c => absurd c (by rw [e1]; exact nI_ge (b := 700) (by omega) (by omega))) (fun _ => ⟨by rw [e1]; exact vp_in_nI (by omega) (by omega), ?_⟩))
  refine And.intro (fun c => absurd c (by decide)) (fun _ => And.intro (fun c => absurd c (by rw [e1, e2]; exact nI_ge (b := 700) (by omega) (by omega))) (fun _ => ⟨by rw [e1, e2]; exact vp_in_nI (by omega) (by omega), ?_⟩))
  refine And.intro (fun c => absurd c (by decide)) (fun _ => And.intro (fun c => absurd c (by rw [e1, e2, e3]; exact nI_ge (b := 700) (by omega) (by omega))) (fun _ => ⟨by rw [e1, e2, e3]; exact vp_in_nI (by omega) (by omega), ?_⟩))
  refine And.intro (fun _ => ?_) (fun c => absurd (show ((24 : Int32) + (-8) + (-8) + (-8) + (-8)) < 0 by decide) c)
  show K (.inl none) _
  rw [e1, e2, e3, e4, d0, d1, d2, d3]
  exact hK
def feedF (tx : Nat → Int32) (tl : Nat) (x1 x2 x3 x4 x5 : Int32) : Nat → Int32 := put4 (put4 (put4 (put4 (put4 tx tl x1) (tl + 4) x2) (tl + 8) x3) (tl + 12) x4) (tl + 16) x5
def tX11_feed : List q_I := [(0, .aload_n 0, 1, 0, 0), (1, .getfield 76, 3, 0, 0), (4, .bipush 20, 2, 20, 0), (6, .iadd, 1, 0, 0), (7, .sipush 700, 3, 700, 0), (10, .if_icmp .le 5, 3, 0, 15), (13, .iconst (-1), 1, (-1), 0), (14, .ireturn, 1, 0, 0), (15, .aload_n 0, 1, 0, 0), (16, .iload_n 1, 1, 0, 0), (17, .invokevirtual 80, 3, 0, 0), (20, .aload_n 0, 1, 0, 0), (21, .iload_n 2, 1, 0, 0), (22, .invokevirtual 80, 3, 0, 0), (25, .aload_n 0, 1, 0, 0), (26, .iload_n 3, 1, 0, 0), (27, .invokevirtual 80, 3, 0, 0), (30, .aload_n 0, 1, 0, 0), (31, .iload 4, 2, 0, 0), (33, .invokevirtual 80, 3, 0, 0), (36, .aload_n 0, 1, 0, 0), (37, .iload 5, 2, 0, 0), (39, .invokevirtual 80, 3, 0, 0), (42, .aload_n 0, 1, 0, 0), (43, .getfield 76, 3, 0, 0), (46, .ireturn, 1, 0, 0)]
theorem tX11_feed_ok : (tX11_feed.all (q_okI cX11_feed)) = true := by decide +kernel

abbrev fdX11_feed : List (Nat ⊕ (Nat × Nat)) := [.inl 0, .inr (0, 0), .inr (0, 2), .inr (2, 0), .inr (2, 1), .inr (2, 2), .inr (2, 3), .inr (2, 5), .inr (7, 0), .inr (7, 1), .inr (7, 2), .inr (7, 3), .inr (7, 4), .inr (7, 5), .inr (7, 6), .inr (2, 6), .inr (15, 0), .inr (15, 1), .inr (15, 2), .inr (15, 3), .inr (15, 4), .inr (15, 5), .inr (15, 6), .inr (2, 7), .inr (23, 0), .inr (23, 1), .inr (23, 2), .inr (23, 3), .inr (23, 4), .inr (23, 5), .inr (23, 6), .inr (23, 7), .inr (0, 3), .inr (32, 0), .inr (32, 1), .inr (32, 2), .inr (32, 3), .inr (32, 5), .inr (37, 0), .inr (37, 1), .inr (37, 2), .inr (37, 3), .inr (37, 4), .inr (37, 5), .inr (37, 6), .inr (32, 6), .inr (45, 0), .inr (45, 1), .inr (45, 2), .inr (45, 3), .inr (45, 4), .inr (45, 5), .inr (45, 6), .inr (32, 7), .inr (53, 0), .inr (53, 1), .inr (53, 2), .inr (53, 3), .inr (53, 4), .inr (53, 5), .inr (53, 6), .inr (53, 7), .inr (0, 4), .inr (62, 2), .inr (0, 7), .inr (64, 0), .inr (64, 1), .inr (64, 2), .inr (64, 3), .inr (64, 4), .inr (64, 5), .inr (0, 8), .inr (71, 1), .inr (71, 2), .inr (71, 3), .inr (71, 4), .inr (71, 5), .inr (71, 6), .inr (0, 9), .inr (78, 0), .inr (78, 1), .inr (78, 2), .inr (78, 3), .inr (78, 4), .inr (0, 10), .inr (84, 0), .inr (84, 1), .inr (84, 2), .inr (84, 3), .inr (84, 4), .inr (84, 5), .inr (84, 6), .inr (0, 11), .inr (92, 0), .inr (92, 1), .inr (92, 2), .inr (92, 3), .inr (92, 4), .inr (92, 5), .inr (0, 12), .inr (99, 0), .inr (99, 1), .inr (99, 2)]
def spX11_feed : q_P := fun a w K => ∃ (tl : Nat) (hb : Bool) (td : Int32) (tr : Int32) (lf : Int32) (tx : Nat → Int32) (rb : Value) (N : NT) (B : BT) (R : RT) (L : LT) (G : GT) (B2 : BT) (R2 : RT) (L2 : LT) (G2 : GT) (P : PT) (W : WT) (S : ST) (Cc : CT) (Y : YT) (D : DT) (x1 x2 x3 x4 x5 : Int32), w = (stripW 0 tl hb td tr lf tx rb N B R L G B2 R2 L2 G2 P W S Cc Y D) ∧ a = [.ref 0, .int x1, .int x2, .int x3, .int x4, .int x5] ∧ tl ≤ 700 ∧ (if tl + 20 ≤ 700 then K (.inl (some (.int (nI (tl + 20))))) (stripW 0 (tl + 20) hb td tr lf (feedF tx tl x1 x2 x3 x4 x5) rb N B R L G B2 R2 L2 G2 P W S Cc Y D) else K (.inl (some (.int (-1)))) (stripW 0 tl hb td tr lf tx rb N B R L G B2 R2 L2 G2 P W S Cc Y D))
abbrev csX11_feed : q_S := (6, 11, 1, 6, 0, 0, fdX11_feed, spX11_feed)
theorem coX11_80 (l : Launch) : q_CO l RX11 80 csX11_putBytes := ⟨yX11_putBytes, cX11_putBytes, none, 1, ⟨by decide +kernel, by decide +kernel, by decide +kernel⟩, q_G_i 1 (by decide +kernel) rfl, Or.inl ⟨by decide, rfl, rfl, q_G_i 549 (by decide +kernel) rfl, q_G_i 551 (by decide +kernel) rfl, q_G_s (n := 15) 0 (by decide +kernel), Or.inl ⟨q_G_i 552 (by decide +kernel) rfl, ctX11_putBytes l⟩⟩⟩
def EX11_feed : q_E := (tX11_feed, [], 6, flX11, [(80, csX11_putBytes)], [], [], [], [], [], 1, 0, 0, (some .int), [], [], 0, 0)
theorem okX11_feed (l : Launch) : q_Eok l RX11 cX11_feed EX11_feed := ⟨tX11_feed_ok, flX11_ok, List.forall_mem_cons.mpr ⟨(coX11_80 l), q_nil⟩, q_nil, q_nil, q_nil, q_nil, q_nil, (fun h => absurd h (by decide))⟩
set_option maxRecDepth 100000 in
set_option maxHeartbeats 4000000 in
theorem ctX11_feed (l : Launch) : q_CT l yX11_feed (.code yX11_feed cX11_feed 6 (some .int)) 1 0 0 spX11_feed := by
  refine q_ct_of EX11_feed (by decide +kernel) (okX11_feed l) rfl rfl rfl rfl rfl q_nil (fun ci h => by cases h) rfl ?_
  intro a w K h
  obtain ⟨tl, hb, td, tr, lf, tx, rb, N, B, R, L, G, B2, R2, L2, G2, P, W, S, Cc, Y, D, x1, x2, x3, x4, x5, rfl, rfl, ht, hK⟩ := h
  have e : nI tl + 20 = nI (tl + 20) := nI_add tl 20
  refine ⟨Nat.le_of_ble_eq_true rfl, fun C hC => hC _ _ _ _ _ _ ?_⟩
  refine And.intro (fun c => ?_) (fun c => ?_)
  · have h9 : tl + 20 ≤ 700 := by
      rcases Nat.lt_or_ge 700 (tl + 20) with z | z
      · exact absurd (show nI (tl + 20) ≤ nI 700 from e ▸ c) (nI_ge z (by omega))
      · exact z
    rw [if_pos h9] at hK
    exact ⟨_, _, _, _, _, _, x1, rfl, rfl, by omega, _, _, _, _, _, _, x2, rfl, rfl, by omega, _, _, _, _, _, _, x3, rfl, rfl, by omega, _, _, _, _, _, _, x4, rfl, rfl, by omega, _, _, _, _, _, _, x5, rfl, rfl, by omega, hK⟩
  · rw [if_neg (fun z => absurd (show nI tl + 20 ≤ 700 from e.symm ▸ nI_le (b := 700) z (by omega)) c)] at hK
    exact hK
def tX11_cheap : List q_I := [(0, .aload_n 0, 1, 0, 0), (1, .iload_n 1, 1, 0, 0), (2, .iload_n 2, 1, 0, 0), (3, .iload_n 3, 1, 0, 0), (4, .invokevirtual 215, 3, 0, 0), (7, .istore 4, 2, 0, 0), (9, .iload 4, 2, 0, 0), (11, .ifCond .eq 10, 3, 0, 21), (14, .aload_n 0, 1, 0, 0), (15, .iload 4, 2, 0, 0), (17, .invokevirtual 84, 3, 0, 0), (20, .ireturn, 1, 0, 0), (21, .aload_n 0, 1, 0, 0), (22, .getfield 44, 3, 0, 0), (25, .aload_n 0, 1, 0, 0), (26, .getfield 16, 3, 0, 0), (29, .iload_n 1, 1, 0, 0), (30, .iload_n 3, 1, 0, 0), (31, .invokevirtual 229, 3, 0, 0), (34, .aload_n 0, 1, 0, 0), (35, .aload_n 0, 1, 0, 0), (36, .getfield 44, 3, 0, 0), (39, .getfield 223, 3, 0, 0), (42, .iload_n 2, 1, 0, 0), (43, .iaload, 1, 0, 0), (44, .invokevirtual 226, 3, 0, 0), (47, .ireturn, 1, 0, 0)]
theorem tX11_cheap_ok : (tX11_cheap.all (q_okI cX11_cheap)) = true := by decide +kernel

abbrev fdX11_cheap : List (Nat ⊕ (Nat × Nat)) := [.inl 0, .inr (0, 0), .inr (0, 2), .inr (2, 0), .inr (2, 1), .inr (2, 2), .inr (2, 3), .inr (2, 5), .inr (7, 0), .inr (7, 1), .inr (7, 2), .inr (7, 3), .inr (7, 4), .inr (7, 5), .inr (7, 6), .inr (2, 6), .inr (15, 0), .inr (15, 1), .inr (15, 2), .inr (15, 3), .inr (15, 4), .inr (15, 5), .inr (15, 6), .inr (2, 7), .inr (23, 0), .inr (23, 1), .inr (23, 2), .inr (23, 3), .inr (23, 4), .inr (23, 5), .inr (23, 6), .inr (23, 7), .inr (0, 3), .inr (32, 0), .inr (32, 1), .inr (32, 2), .inr (32, 3), .inr (32, 5), .inr (37, 0), .inr (37, 1), .inr (37, 2), .inr (37, 3), .inr (37, 4), .inr (37, 5), .inr (37, 6), .inr (32, 6), .inr (45, 0), .inr (45, 1), .inr (45, 2), .inr (45, 3), .inr (45, 4), .inr (45, 5), .inr (45, 6), .inr (32, 7), .inr (53, 0), .inr (53, 1), .inr (53, 2), .inr (53, 3), .inr (53, 4), .inr (53, 5), .inr (53, 6), .inr (53, 7), .inr (0, 4), .inr (62, 2), .inr (0, 7), .inr (64, 0), .inr (64, 1), .inr (64, 2), .inr (64, 3), .inr (64, 4), .inr (64, 5), .inr (0, 8), .inr (71, 1), .inr (71, 2), .inr (71, 3), .inr (71, 4), .inr (71, 5), .inr (71, 6), .inr (0, 9), .inr (78, 0), .inr (78, 1), .inr (78, 2), .inr (78, 3), .inr (78, 4), .inr (0, 10), .inr (84, 0), .inr (84, 1), .inr (84, 2), .inr (84, 3), .inr (84, 4), .inr (84, 5), .inr (84, 6), .inr (0, 11), .inr (92, 0), .inr (92, 1), .inr (92, 2), .inr (92, 3), .inr (92, 4), .inr (92, 5), .inr (0, 12), .inr (99, 0), .inr (99, 1), .inr (99, 2)]
def spX11_cheap : q_P := fun a w K => ∃ (tl : Nat) (hb : Bool) (td : Int32) (tr : Int32) (lf : Int32) (tx : Nat → Int32) (rb : Value) (N : NT) (B : BT) (R : RT) (L : LT) (G : GT) (B2 : BT) (R2 : RT) (L2 : LT) (G2 : GT) (P : PT) (W : WT) (S : ST) (Cc : CT) (Y : YT) (D : DT) (n : Nat) (p x d : Int32), w = (stripW 0 tl hb td tr lf tx rb N B R L G B2 R2 L2 G2 P W S Cc Y D) ∧ a = [.ref 0, .int p, .int x, .int d] ∧ pOk P ∧ pPl P n ∧ rOk R ∧ rEnd R n ∧ L_n L ≤ 24 ∧ B.1 0 = nI n ∧ n ≤ 8 ∧ (if trvR B.1 P p x d = 0 then ∀ V, (if coinsF P L R p.toNatClampNeg n (P.1 p.toNatClampNeg).toNatClampNeg d W.1 x.toNatClampNeg = 1000000 then K (.inl (some (.int (-1)))) (stripW 0 tl hb td (6) lf tx rb N B R L G B2 R2 L2 G2 P (V) S Cc Y D) else K (.inl (some (.int (coinsF P L R p.toNatClampNeg n (P.1 p.toNatClampNeg).toNatClampNeg d W.1 x.toNatClampNeg)))) (stripW 0 tl hb td (0) lf tx rb N B R L G B2 R2 L2 G2 P (V) S Cc Y D)) else K (.inl (some (.int (-1)))) (stripW 0 tl hb td (trvR B.1 P p x d) lf tx rb N B R L G B2 R2 L2 G2 P W S Cc Y D))
abbrev csX11_cheap : q_S := (4, 11, 5, 5, 0, 0, fdX11_cheap, spX11_cheap)
theorem coX11_229 (l : Launch) : q_CO l RX11 229 csX10_findCoins := ⟨yX10_findCoins, cX10_findCoins, none, 3, ⟨by decide +kernel, by decide +kernel, by decide +kernel⟩, q_G_i 12 (by decide +kernel) rfl, Or.inl ⟨by decide, rfl, rfl, q_G_i 921 (by decide +kernel) rfl, q_G_i 922 (by decide +kernel) rfl, q_G_i 923 (by decide +kernel) rfl, Or.inl ⟨q_G_i 924 (by decide +kernel) rfl, ctX10_findCoins l⟩⟩⟩
def EX11_cheap : q_E := (tX11_cheap, [], 5, flX11, [(215, csX11_travelRefusal), (84, csX11_refuse), (229, csX10_findCoins), (226, csX11_grantWay)], [], [], [], [], [], 5, 0, 0, (some .int), [], [], 0, 0)
theorem okX11_cheap (l : Launch) : q_Eok l RX11 cX11_cheap EX11_cheap := ⟨tX11_cheap_ok, flX11_ok, List.forall_mem_cons.mpr ⟨(coX11_215 l), List.forall_mem_cons.mpr ⟨(coX11_84 l), List.forall_mem_cons.mpr ⟨(coX11_229 l), List.forall_mem_cons.mpr ⟨(coX11_226 l), q_nil⟩⟩⟩⟩, q_nil, q_nil, q_nil, q_nil, q_nil, (fun h => absurd h (by decide))⟩
set_option maxRecDepth 100000 in
set_option maxHeartbeats 4000000 in
theorem ctX11_cheap (l : Launch) : q_CT l yX11_cheap (.code yX11_cheap cX11_cheap 5 (some .int)) 5 0 0 spX11_cheap := by
  refine q_ct_of EX11_cheap (by decide +kernel) (okX11_cheap l) rfl rfl rfl rfl rfl q_nil (fun ci h => by cases h) rfl ?_
  intro a w K h
  obtain ⟨tl, hb, td, tr, lf, tx, rb, N, B, R, L, G, B2, R2, L2, G2, P, W, S, Cc, Y, D, n, p, x, d, rfl, rfl, ho, hpl, hro, hre, hL, hB, hn, hK⟩ := h
  refine ⟨Nat.le_of_ble_eq_true rfl, fun C hC => hC _ _ _ _ _ _ ?_⟩
  refine ⟨_, _, _, _, _, _, p, x, d, B.1, P, rfl, rfl, And.intro (fun c => ?_) (fun c => ?_)⟩
  · rw [if_pos c] at hK
    obtain ⟨c1, c2, c3⟩ := trvR_0 c
    obtain ⟨p, rfl, hp⟩ := inI (by have := ho.1; omega) c1
    obtain ⟨x, rfl, hx⟩ := toldI hB hn c2
    obtain ⟨y, hy, hyn⟩ := hpl p hp
    have hcp : (nI p).toNatClampNeg = p := nI_clamp (by have := ho.1; omega)
    have hcx : (nI x).toNatClampNeg = x := nI_clamp (by omega)
    have hcy : (nI y).toNatClampNeg = y := nI_clamp (by omega)
    rw [hcp, hy, hcy, hcx] at hK
    refine ⟨P, R, L, B.1, _, W, n, p, y, d, rfl, rfl, ho, hro, hre, hL, hB, hn, hp, hy, by omega, fun V hV => ⟨vp_in_nI (by omega) (by omega), _, _, _, _, _, _, rfl, rfl, ?_⟩⟩
    have hK := hK V
    rw [← hV] at hK
    rw [hcx]; exact hK
  · rw [if_neg c] at hK
    exact ⟨_, _, _, _, _, _, rfl, rfl, hK⟩
def stripQ (tl hb td tr lf : Int32) (P : PT) : List q_C := [.inr (11, [tk 0 0, .int tl, tk 0 2, tk 0 3, tk 0 4, .int hb, .int td, .ref 1, tk 0 8, tk 0 9, tk 0 10, tk 0 11, tk 0 12, .int tr, .int lf])] ++ peopleW 1 P
def pdyR (P : PT) (p d : Int32) : Int32 := if perB P p then (if dayB d then 0 else 2) else 1
def tX11_personDayRefusal : List q_I := [(0, .aload_n 0, 1, 0, 0), (1, .getfield 35, 3, 0, 0), (4, .iload_n 1, 1, 0, 0), (5, .invokevirtual 162, 3, 0, 0), (8, .ifCond .ne 5, 3, 0, 13), (11, .iconst 1, 1, 1, 0), (12, .ireturn, 1, 0, 0), (13, .iload_n 2, 1, 0, 0), (14, .invokestatic 152, 3, 0, 0), (17, .ifCond .eq 7, 3, 0, 24), (20, .iconst 0, 1, 0, 0), (21, .goto 4, 3, 0, 25), (24, .iconst 2, 1, 2, 0), (25, .ireturn, 1, 0, 0)]
theorem tX11_personDayRefusal_ok : (tX11_personDayRefusal.all (q_okI cX11_personDayRefusal)) = true := by decide +kernel

abbrev fdX11_personDayRefusal : List (Nat ⊕ (Nat × Nat)) := [.inl 0, .inr (0, 7), .inr (1, 0), .inr (1, 1), .inr (1, 2), .inr (1, 3), .inr (1, 4), .inr (1, 5)]
def spX11_personDayRefusal : q_P := fun a w K => ∃ (tl hb td tr lf p d : Int32) (P : PT), w = stripQ tl hb td tr lf P ∧ a = [.ref 0, .int p, .int d] ∧ K (.inl (some (.int (pdyR P p d)))) (stripQ tl hb td tr lf P)
abbrev csX11_personDayRefusal : q_S := (3, 11, 1, 3, 0, 0, fdX11_personDayRefusal, spX11_personDayRefusal)
def EX11_personDayRefusal : q_E := (tX11_personDayRefusal, [], 3, flX11, [(162, csX6_has), (152, csX11_isDay)], [], [], [], [], [], 1, 0, 0, (some .int), [], [], 0, 0)
theorem okX11_personDayRefusal (l : Launch) : q_Eok l RX11 cX11_personDayRefusal EX11_personDayRefusal := ⟨tX11_personDayRefusal_ok, flX11_ok, List.forall_mem_cons.mpr ⟨(coX11_162 l), List.forall_mem_cons.mpr ⟨(coX11_152 l), q_nil⟩⟩, q_nil, q_nil, q_nil, q_nil, q_nil, (fun h => absurd h (by decide))⟩
set_option maxRecDepth 100000 in
set_option maxHeartbeats 4000000 in
theorem ctX11_personDayRefusal (l : Launch) : q_CT l yX11_personDayRefusal (.code yX11_personDayRefusal cX11_personDayRefusal 3 (some .int)) 1 0 0 spX11_personDayRefusal := by
  refine q_ct_of EX11_personDayRefusal (by decide +kernel) (okX11_personDayRefusal l) rfl rfl rfl rfl rfl q_nil (fun ci h => by cases h) rfl ?_
  intro a w K h
  obtain ⟨tl, hb, td, tr, lf, p, d, P, rfl, rfl, hK⟩ := h
  refine ⟨Nat.le_of_ble_eq_true rfl, fun C hC => hC _ _ _ _ _ _ ?_⟩
  rw [pdyR] at hK
  refine ⟨P, p, rfl, rfl, And.intro (fun c => ?_) (fun c => ?_)⟩
  · have c : perB P p = true := bI_n0.mp c
    rw [c, if_pos rfl] at hK
    refine ⟨d, rfl, rfl, And.intro (fun c3 => ?_) (fun c3 => ?_)⟩
    · have c3 : dayB d = false := bI_0.mp c3
      rw [c3] at hK; exact hK
    · have c3 : dayB d = true := bI_n0.mp c3
      rw [c3] at hK; exact hK
  · have c : perB P p = false := bI_0.mp c
    rw [c] at hK; exact hK
theorem pdyR_0 {P : PT} {p d : Int32} (h : pdyR P p d = 0) : perB P p = true ∧ dayB d = true := by
  unfold pdyR at h
  by_cases h1 : perB P p = true
  · rw [if_pos h1] at h
    by_cases h3 : dayB d = true
    · exact ⟨h1, h3⟩
    · rw [if_neg h3] at h; exact absurd h (by decide)
  · rw [if_neg h1] at h; exact absurd h (by decide)
def tX11_reach : List q_I := [(0, .aload_n 0, 1, 0, 0), (1, .iload_n 1, 1, 0, 0), (2, .iload_n 2, 1, 0, 0), (3, .invokevirtual 233, 3, 0, 0), (6, .istore_n 3, 1, 0, 0), (7, .iload_n 3, 1, 0, 0), (8, .ifCond .eq 9, 3, 0, 17), (11, .aload_n 0, 1, 0, 0), (12, .iload_n 3, 1, 0, 0), (13, .invokevirtual 84, 3, 0, 0), (16, .ireturn, 1, 0, 0), (17, .aload_n 0, 1, 0, 0), (18, .aload_n 0, 1, 0, 0), (19, .getfield 44, 3, 0, 0), (22, .aload_n 0, 1, 0, 0), (23, .getfield 16, 3, 0, 0), (26, .iload_n 1, 1, 0, 0), (27, .iload_n 2, 1, 0, 0), (28, .invokevirtual 237, 3, 0, 0), (31, .invokevirtual 113, 3, 0, 0), (34, .ireturn, 1, 0, 0)]
theorem tX11_reach_ok : (tX11_reach.all (q_okI cX11_reach)) = true := by decide +kernel

abbrev fdX11_reach : List (Nat ⊕ (Nat × Nat)) := [.inl 0, .inr (0, 0), .inr (0, 2), .inr (2, 0), .inr (2, 1), .inr (2, 2), .inr (2, 3), .inr (2, 5), .inr (7, 0), .inr (7, 1), .inr (7, 2), .inr (7, 3), .inr (7, 4), .inr (7, 5), .inr (7, 6), .inr (2, 6), .inr (15, 0), .inr (15, 1), .inr (15, 2), .inr (15, 3), .inr (15, 4), .inr (15, 5), .inr (15, 6), .inr (2, 7), .inr (23, 0), .inr (23, 1), .inr (23, 2), .inr (23, 3), .inr (23, 4), .inr (23, 5), .inr (23, 6), .inr (23, 7), .inr (0, 3), .inr (32, 0), .inr (32, 1), .inr (32, 2), .inr (32, 3), .inr (32, 5), .inr (37, 0), .inr (37, 1), .inr (37, 2), .inr (37, 3), .inr (37, 4), .inr (37, 5), .inr (37, 6), .inr (32, 6), .inr (45, 0), .inr (45, 1), .inr (45, 2), .inr (45, 3), .inr (45, 4), .inr (45, 5), .inr (45, 6), .inr (32, 7), .inr (53, 0), .inr (53, 1), .inr (53, 2), .inr (53, 3), .inr (53, 4), .inr (53, 5), .inr (53, 6), .inr (53, 7), .inr (0, 4), .inr (62, 2), .inr (0, 7), .inr (64, 0), .inr (64, 1), .inr (64, 2), .inr (64, 3), .inr (64, 4), .inr (64, 5), .inr (0, 8), .inr (71, 1), .inr (71, 2), .inr (71, 3), .inr (71, 4), .inr (71, 5), .inr (71, 6), .inr (0, 9), .inr (78, 0), .inr (78, 1), .inr (78, 2), .inr (78, 3), .inr (78, 4), .inr (0, 10), .inr (84, 0), .inr (84, 1), .inr (84, 2), .inr (84, 3), .inr (84, 4), .inr (84, 5), .inr (84, 6), .inr (0, 11), .inr (92, 0), .inr (92, 1), .inr (92, 2), .inr (92, 3), .inr (92, 4), .inr (92, 5), .inr (0, 12), .inr (99, 0), .inr (99, 1), .inr (99, 2)]
def spX11_reach : q_P := fun a w K => ∃ (tl : Nat) (hb : Bool) (td : Int32) (tr : Int32) (lf : Int32) (tx : Nat → Int32) (rb : Value) (N : NT) (B : BT) (R : RT) (L : LT) (G : GT) (B2 : BT) (R2 : RT) (L2 : LT) (G2 : GT) (P : PT) (W : WT) (S : ST) (Cc : CT) (Y : YT) (D : DT) (n : Nat) (p d : Int32), w = (stripW 0 tl hb td tr lf tx rb N B R L G B2 R2 L2 G2 P W S Cc Y D) ∧ a = [.ref 0, .int p, .int d] ∧ pOk P ∧ pPl P n ∧ rOk R ∧ L_n L ≤ 24 ∧ B.1 0 = nI n ∧ n ≤ 8 ∧ (if pdyR P p d = 0 then ∀ V, K (.inl (some (.int (rchF L R (metB P L R p.toNatClampNeg d) n (P.1 p.toNatClampNeg).toNatClampNeg (-1) (-1) d)))) (stripW 0 tl hb td (0) lf tx rb N B R L G B2 R2 L2 G2 P (V) S Cc Y D) else K (.inl (some (.int (-1)))) (stripW 0 tl hb td (pdyR P p d) lf tx rb N B R L G B2 R2 L2 G2 P W S Cc Y D))
abbrev csX11_reach : q_S := (3, 11, 5, 4, 0, 0, fdX11_reach, spX11_reach)
theorem coX11_233 (l : Launch) : q_CO l RX11 233 csX11_personDayRefusal := ⟨yX11_personDayRefusal, cX11_personDayRefusal, (some .int), 2, ⟨by decide +kernel, by decide +kernel, by decide +kernel⟩, q_G_i 1 (by decide +kernel) rfl, Or.inl ⟨by decide, rfl, rfl, q_G_i 942 (by decide +kernel) rfl, q_G_i 944 (by decide +kernel) rfl, q_G_s (n := 15) 35 (by decide +kernel), Or.inl ⟨q_G_i 945 (by decide +kernel) rfl, ctX11_personDayRefusal l⟩⟩⟩
theorem coX11_237 (l : Launch) : q_CO l RX11 237 csX10_countReach := ⟨yX10_countReach, cX10_countReach, (some .int), 3, ⟨by decide +kernel, by decide +kernel, by decide +kernel⟩, q_G_i 12 (by decide +kernel) rfl, Or.inl ⟨by decide, rfl, rfl, q_G_i 946 (by decide +kernel) rfl, q_G_i 947 (by decide +kernel) rfl, q_G_i 948 (by decide +kernel) rfl, Or.inl ⟨q_G_i 949 (by decide +kernel) rfl, ctX10_countReach l⟩⟩⟩
def EX11_reach : q_E := (tX11_reach, [], 4, flX11, [(233, csX11_personDayRefusal), (84, csX11_refuse), (237, csX10_countReach), (113, csX11_grant)], [], [], [], [], [], 5, 0, 0, (some .int), [], [], 0, 0)
theorem okX11_reach (l : Launch) : q_Eok l RX11 cX11_reach EX11_reach := ⟨tX11_reach_ok, flX11_ok, List.forall_mem_cons.mpr ⟨(coX11_233 l), List.forall_mem_cons.mpr ⟨(coX11_84 l), List.forall_mem_cons.mpr ⟨(coX11_237 l), List.forall_mem_cons.mpr ⟨(coX11_113 l), q_nil⟩⟩⟩⟩, q_nil, q_nil, q_nil, q_nil, q_nil, (fun h => absurd h (by decide))⟩
set_option maxRecDepth 100000 in
set_option maxHeartbeats 4000000 in
theorem ctX11_reach (l : Launch) : q_CT l yX11_reach (.code yX11_reach cX11_reach 4 (some .int)) 5 0 0 spX11_reach := by
  refine q_ct_of EX11_reach (by decide +kernel) (okX11_reach l) rfl rfl rfl rfl rfl q_nil (fun ci h => by cases h) rfl ?_
  intro a w K h
  obtain ⟨tl, hb, td, tr, lf, tx, rb, N, B, R, L, G, B2, R2, L2, G2, P, W, S, Cc, Y, D, n, p, d, rfl, rfl, ho, hpl, hro, hL, hB, hn, hK⟩ := h
  refine ⟨Nat.le_of_ble_eq_true rfl, fun C hC => hC _ _ _ _ _ _ ?_⟩
  refine ⟨_, _, _, _, _, p, d, P, rfl, rfl, And.intro (fun c => ?_) (fun c => ?_)⟩
  · rw [if_pos c] at hK
    obtain ⟨c1, c3⟩ := pdyR_0 c
    obtain ⟨p, rfl, hp, hcp⟩ := perI ho c1
    obtain ⟨y, hy, hyn⟩ := hpl p hp
    have hcy : (nI y).toNatClampNeg = y := nI_clamp (by omega)
    rw [hcp, hy, hcy] at hK
    exact ⟨P, R, L, B.1, _, W, n, p, y, d, rfl, rfl, ho, hro, hL, hB, hn, hp, hy, fun V => ⟨_, _, _, _, _, _, rfl, rfl, hK V⟩⟩
  · rw [if_neg c] at hK
    exact ⟨_, _, _, _, _, _, rfl, rfl, hK⟩
def tX11_opener : List q_I := [(0, .aload_n 0, 1, 0, 0), (1, .iload_n 1, 1, 0, 0), (2, .iload_n 2, 1, 0, 0), (3, .invokevirtual 233, 3, 0, 0), (6, .istore_n 3, 1, 0, 0), (7, .iload_n 3, 1, 0, 0), (8, .ifCond .eq 9, 3, 0, 17), (11, .aload_n 0, 1, 0, 0), (12, .iload_n 3, 1, 0, 0), (13, .invokevirtual 84, 3, 0, 0), (16, .ireturn, 1, 0, 0), (17, .aload_n 0, 1, 0, 0), (18, .aload_n 0, 1, 0, 0), (19, .getfield 44, 3, 0, 0), (22, .aload_n 0, 1, 0, 0), (23, .getfield 16, 3, 0, 0), (26, .iload_n 1, 1, 0, 0), (27, .iload_n 2, 1, 0, 0), (28, .invokevirtual 241, 3, 0, 0), (31, .invokevirtual 113, 3, 0, 0), (34, .ireturn, 1, 0, 0)]
theorem tX11_opener_ok : (tX11_opener.all (q_okI cX11_opener)) = true := by decide +kernel

abbrev fdX11_opener : List (Nat ⊕ (Nat × Nat)) := [.inl 0, .inr (0, 0), .inr (0, 2), .inr (2, 0), .inr (2, 1), .inr (2, 2), .inr (2, 3), .inr (2, 5), .inr (7, 0), .inr (7, 1), .inr (7, 2), .inr (7, 3), .inr (7, 4), .inr (7, 5), .inr (7, 6), .inr (2, 6), .inr (15, 0), .inr (15, 1), .inr (15, 2), .inr (15, 3), .inr (15, 4), .inr (15, 5), .inr (15, 6), .inr (2, 7), .inr (23, 0), .inr (23, 1), .inr (23, 2), .inr (23, 3), .inr (23, 4), .inr (23, 5), .inr (23, 6), .inr (23, 7), .inr (0, 3), .inr (32, 0), .inr (32, 1), .inr (32, 2), .inr (32, 3), .inr (32, 5), .inr (37, 0), .inr (37, 1), .inr (37, 2), .inr (37, 3), .inr (37, 4), .inr (37, 5), .inr (37, 6), .inr (32, 6), .inr (45, 0), .inr (45, 1), .inr (45, 2), .inr (45, 3), .inr (45, 4), .inr (45, 5), .inr (45, 6), .inr (32, 7), .inr (53, 0), .inr (53, 1), .inr (53, 2), .inr (53, 3), .inr (53, 4), .inr (53, 5), .inr (53, 6), .inr (53, 7), .inr (0, 4), .inr (62, 2), .inr (0, 7), .inr (64, 0), .inr (64, 1), .inr (64, 2), .inr (64, 3), .inr (64, 4), .inr (64, 5), .inr (0, 8), .inr (71, 1), .inr (71, 2), .inr (71, 3), .inr (71, 4), .inr (71, 5), .inr (71, 6), .inr (0, 9), .inr (78, 0), .inr (78, 1), .inr (78, 2), .inr (78, 3), .inr (78, 4), .inr (0, 10), .inr (84, 0), .inr (84, 1), .inr (84, 2), .inr (84, 3), .inr (84, 4), .inr (84, 5), .inr (84, 6), .inr (0, 11), .inr (92, 0), .inr (92, 1), .inr (92, 2), .inr (92, 3), .inr (92, 4), .inr (92, 5), .inr (0, 12), .inr (99, 0), .inr (99, 1), .inr (99, 2)]
def spX11_opener : q_P := fun a w K => ∃ (tl : Nat) (hb : Bool) (td : Int32) (tr : Int32) (lf : Int32) (tx : Nat → Int32) (rb : Value) (N : NT) (B : BT) (R : RT) (L : LT) (G : GT) (B2 : BT) (R2 : RT) (L2 : LT) (G2 : GT) (P : PT) (W : WT) (S : ST) (Cc : CT) (Y : YT) (D : DT) (n nk no : Nat) (p d : Int32), w = (stripW 0 tl hb td tr lf tx rb N B R L G B2 R2 L2 G2 P W S Cc Y D) ∧ a = [.ref 0, .int p, .int d] ∧ pOk P ∧ pPl P n ∧ rOk R ∧ L_n L ≤ 24 ∧ B.1 0 = nI n ∧ n ≤ 8 ∧ B.1 3 = nI nk ∧ nk ≤ 8 ∧ B.1 2 = nI no ∧ no ≤ 8 ∧ (if pdyR P p d = 0 then ∀ V, K (.inl (some (.int (boF (fun k o => rchF L R (metB P L R p.toNatClampNeg d) n (P.1 p.toNatClampNeg).toNatClampNeg (nI k) (nI o) d) nk no (rchF L R (metB P L R p.toNatClampNeg d) n (P.1 p.toNatClampNeg).toNatClampNeg (-1) (-1) d))))) (stripW 0 tl hb td (0) lf tx rb N B R L G B2 R2 L2 G2 P (V) S Cc Y D) else K (.inl (some (.int (-1)))) (stripW 0 tl hb td (pdyR P p d) lf tx rb N B R L G B2 R2 L2 G2 P W S Cc Y D))
abbrev csX11_opener : q_S := (3, 11, 5, 4, 0, 0, fdX11_opener, spX11_opener)
theorem coX11_241 (l : Launch) : q_CO l RX11 241 csX10_bestOpener := ⟨yX10_bestOpener, cX10_bestOpener, (some .int), 3, ⟨by decide +kernel, by decide +kernel, by decide +kernel⟩, q_G_i 12 (by decide +kernel) rfl, Or.inl ⟨by decide, rfl, rfl, q_G_i 967 (by decide +kernel) rfl, q_G_i 968 (by decide +kernel) rfl, q_G_i 969 (by decide +kernel) rfl, Or.inl ⟨q_G_i 970 (by decide +kernel) rfl, ctX10_bestOpener l⟩⟩⟩
def EX11_opener : q_E := (tX11_opener, [], 4, flX11, [(233, csX11_personDayRefusal), (84, csX11_refuse), (241, csX10_bestOpener), (113, csX11_grant)], [], [], [], [], [], 5, 0, 0, (some .int), [], [], 0, 0)
theorem okX11_opener (l : Launch) : q_Eok l RX11 cX11_opener EX11_opener := ⟨tX11_opener_ok, flX11_ok, List.forall_mem_cons.mpr ⟨(coX11_233 l), List.forall_mem_cons.mpr ⟨(coX11_84 l), List.forall_mem_cons.mpr ⟨(coX11_241 l), List.forall_mem_cons.mpr ⟨(coX11_113 l), q_nil⟩⟩⟩⟩, q_nil, q_nil, q_nil, q_nil, q_nil, (fun h => absurd h (by decide))⟩
set_option maxRecDepth 100000 in
set_option maxHeartbeats 4000000 in
theorem ctX11_opener (l : Launch) : q_CT l yX11_opener (.code yX11_opener cX11_opener 4 (some .int)) 5 0 0 spX11_opener := by
  refine q_ct_of EX11_opener (by decide +kernel) (okX11_opener l) rfl rfl rfl rfl rfl q_nil (fun ci h => by cases h) rfl ?_
  intro a w K h
  obtain ⟨tl, hb, td, tr, lf, tx, rb, N, B, R, L, G, B2, R2, L2, G2, P, W, S, Cc, Y, D, n, nk, no, p, d, rfl, rfl, ho, hpl, hro, hL, hB, hn, hB3, hn3, hB2, hn2, hK⟩ := h
  refine ⟨Nat.le_of_ble_eq_true rfl, fun C hC => hC _ _ _ _ _ _ ?_⟩
  refine ⟨_, _, _, _, _, p, d, P, rfl, rfl, And.intro (fun c => ?_) (fun c => ?_)⟩
  · rw [if_pos c] at hK
    obtain ⟨c1, c3⟩ := pdyR_0 c
    obtain ⟨p, rfl, hp, hcp⟩ := perI ho c1
    obtain ⟨y, hy, hyn⟩ := hpl p hp
    have hcy : (nI y).toNatClampNeg = y := nI_clamp (by omega)
    rw [hcp, hy, hcy] at hK
    exact ⟨P, R, L, B.1, _, W, n, nk, no, p, y, d, rfl, rfl, ho, hro, hL, hB, hn, hB3, hn3, hB2, hn2, hp, hy, fun V => ⟨_, _, _, _, _, _, rfl, rfl, hK V⟩⟩
  · rw [if_neg c] at hK
    exact ⟨_, _, _, _, _, _, rfl, rfl, hK⟩
def tX11_stamp : List q_I := [(0, .aload_n 0, 1, 0, 0), (1, .iload_n 1, 1, 0, 0), (2, .iload_n 2, 1, 0, 0), (3, .invokevirtual 149, 3, 0, 0), (6, .ifCond .ne 9, 3, 0, 15), (9, .aload_n 0, 1, 0, 0), (10, .iconst 1, 1, 1, 0), (11, .invokevirtual 84, 3, 0, 0), (14, .ireturn, 1, 0, 0), (15, .iload_n 3, 1, 0, 0), (16, .ifCond .lt 10, 3, 0, 26), (19, .iload_n 3, 1, 0, 0), (20, .sipush 999, 3, 999, 0), (23, .if_icmp .le 9, 3, 0, 32), (26, .aload_n 0, 1, 0, 0), (27, .iconst 2, 1, 2, 0), (28, .invokevirtual 84, 3, 0, 0), (31, .ireturn, 1, 0, 0), (32, .aload_n 0, 1, 0, 0), (33, .getfield 51, 3, 0, 0), (36, .getfield 244, 3, 0, 0), (39, .bipush 9, 2, 9, 0), (41, .if_icmp .lt 9, 3, 0, 50), (44, .aload_n 0, 1, 0, 0), (45, .iconst 3, 1, 3, 0), (46, .invokevirtual 84, 3, 0, 0), (49, .ireturn, 1, 0, 0), (50, .aload_n 0, 1, 0, 0), (51, .aload_n 0, 1, 0, 0), (52, .getfield 51, 3, 0, 0), (55, .iload_n 1, 1, 0, 0), (56, .iload_n 2, 1, 0, 0), (57, .iload_n 3, 1, 0, 0), (58, .invokevirtual 245, 3, 0, 0), (61, .invokevirtual 113, 3, 0, 0), (64, .ireturn, 1, 0, 0)]
theorem tX11_stamp_ok : (tX11_stamp.all (q_okI cX11_stamp)) = true := by decide +kernel

abbrev fdX11_stamp : List (Nat ⊕ (Nat × Nat)) := [.inl 0, .inr (0, 0), .inr (0, 2), .inr (2, 0), .inr (2, 1), .inr (2, 2), .inr (2, 3), .inr (2, 5), .inr (7, 0), .inr (7, 1), .inr (7, 2), .inr (7, 3), .inr (7, 4), .inr (7, 5), .inr (7, 6), .inr (2, 6), .inr (15, 0), .inr (15, 1), .inr (15, 2), .inr (15, 3), .inr (15, 4), .inr (15, 5), .inr (15, 6), .inr (2, 7), .inr (23, 0), .inr (23, 1), .inr (23, 2), .inr (23, 3), .inr (23, 4), .inr (23, 5), .inr (23, 6), .inr (23, 7), .inr (0, 3), .inr (32, 0), .inr (32, 1), .inr (32, 2), .inr (32, 3), .inr (32, 5), .inr (37, 0), .inr (37, 1), .inr (37, 2), .inr (37, 3), .inr (37, 4), .inr (37, 5), .inr (37, 6), .inr (32, 6), .inr (45, 0), .inr (45, 1), .inr (45, 2), .inr (45, 3), .inr (45, 4), .inr (45, 5), .inr (45, 6), .inr (32, 7), .inr (53, 0), .inr (53, 1), .inr (53, 2), .inr (53, 3), .inr (53, 4), .inr (53, 5), .inr (53, 6), .inr (53, 7), .inr (0, 4), .inr (62, 2), .inr (0, 7), .inr (64, 0), .inr (64, 1), .inr (64, 2), .inr (64, 3), .inr (64, 4), .inr (64, 5), .inr (0, 8), .inr (71, 1), .inr (71, 2), .inr (71, 3), .inr (71, 4), .inr (71, 5), .inr (71, 6), .inr (0, 9), .inr (78, 0), .inr (78, 1), .inr (78, 2), .inr (78, 3), .inr (78, 4), .inr (0, 10), .inr (84, 0), .inr (84, 1), .inr (84, 2), .inr (84, 3), .inr (84, 4), .inr (84, 5), .inr (84, 6), .inr (0, 11), .inr (92, 0), .inr (92, 1), .inr (92, 2), .inr (92, 3), .inr (92, 4), .inr (92, 5), .inr (0, 12), .inr (99, 0), .inr (99, 1), .inr (99, 2)]
def spX11_stamp : q_P := fun a w K => ∃ (tl : Nat) (hb : Bool) (td : Int32) (tr : Int32) (lf : Int32) (tx : Nat → Int32) (rb : Value) (N : NT) (B : BT) (R : RT) (L : LT) (G : GT) (B2 : BT) (R2 : RT) (L2 : LT) (G2 : GT) (P : PT) (W : WT) (S : ST) (Cc : CT) (Y : YT) (D : DT) (k o x : Int32), w = (stripW 0 tl hb td tr lf tx rb N B R L G B2 R2 L2 G2 P W S Cc Y D) ∧ a = [.ref 0, .int k, .int o, .int x] ∧ S.2.2.2.2.2.1 ≤ 9 ∧ (if sortB B.1 k o = true then (if x < 0 ∨ 999 < x then K (.inl (some (.int (-1)))) (stripW 0 tl hb td (2) lf tx rb N B R L G B2 R2 L2 G2 P W S Cc Y D) else (if S.2.2.2.2.2.1 < 9 then K (.inl (some (.int (nI S.2.2.2.2.2.1)))) (stripW 0 tl hb td (0) lf tx rb N B R L G B2 R2 L2 G2 P W (loadAdd S k o x) Cc Y D) else K (.inl (some (.int (-1)))) (stripW 0 tl hb td (3) lf tx rb N B R L G B2 R2 L2 G2 P W S Cc Y D))) else K (.inl (some (.int (-1)))) (stripW 0 tl hb td (1) lf tx rb N B R L G B2 R2 L2 G2 P W S Cc Y D))
abbrev csX11_stamp : q_S := (4, 11, 2, 4, 0, 0, fdX11_stamp, spX11_stamp)
theorem coX11_245 (l : Launch) : q_CO l RX11 245 csX5_add := ⟨yX5_add, cX5_add, (some .int), 3, ⟨by decide +kernel, by decide +kernel, by decide +kernel⟩, q_G_i 13 (by decide +kernel) rfl, Or.inl ⟨by decide, rfl, rfl, q_G_i 975 (by decide +kernel) rfl, q_G_i 976 (by decide +kernel) rfl, q_G_i 977 (by decide +kernel) rfl, Or.inl ⟨q_G_i 978 (by decide +kernel) rfl, ctX5_add l⟩⟩⟩
def EX11_stamp : q_E := (tX11_stamp, [], 4, flX11, [(149, csX11_isPaperSort), (84, csX11_refuse), (245, csX5_add), (113, csX11_grant)], [], [], [], [], [], 2, 0, 0, (some .int), [], [], 0, 0)
theorem okX11_stamp (l : Launch) : q_Eok l RX11 cX11_stamp EX11_stamp := ⟨tX11_stamp_ok, flX11_ok, List.forall_mem_cons.mpr ⟨(coX11_149 l), List.forall_mem_cons.mpr ⟨(coX11_84 l), List.forall_mem_cons.mpr ⟨(coX11_245 l), List.forall_mem_cons.mpr ⟨(coX11_113 l), q_nil⟩⟩⟩⟩, q_nil, q_nil, q_nil, q_nil, q_nil, (fun h => absurd h (by decide))⟩
set_option maxRecDepth 100000 in
set_option maxHeartbeats 4000000 in
theorem ctX11_stamp (l : Launch) : q_CT l yX11_stamp (.code yX11_stamp cX11_stamp 4 (some .int)) 2 0 0 spX11_stamp := by
  refine q_ct_of EX11_stamp (by decide +kernel) (okX11_stamp l) rfl rfl rfl rfl rfl q_nil (fun ci h => by cases h) rfl ?_
  intro a w K h
  obtain ⟨tl, hb, td, tr, lf, tx, rb, N, B, R, L, G, B2, R2, L2, G2, P, W, S, Cc, Y, D, k, o, x, rfl, rfl, hS, hK⟩ := h
  refine ⟨Nat.le_of_ble_eq_true rfl, fun C hC => hC _ _ _ _ _ _ ?_⟩
  refine ⟨_, _, _, _, _, _, k, o, B.1, rfl, rfl, And.intro (fun c2 => ?_) (fun c2 => ?_)⟩
  · rw [if_pos (bI_n0.mp c2)] at hK
    refine And.intro (fun c => ?_) (fun c => And.intro (fun c3 => ?_) (fun c3 => ?_))
    · rw [if_pos (Or.inl c)] at hK
      exact ⟨_, _, _, _, _, _, rfl, rfl, hK⟩
    · rw [if_neg (fun z => z.elim c (Int32.not_lt.mpr c3))] at hK
      refine And.intro (fun c4 => ?_) (fun c4 => ?_)
      · have h9 : S.2.2.2.2.2.1 < 9 := by
          rcases Nat.lt_or_ge S.2.2.2.2.2.1 9 with z | z
          · exact z
          · exact absurd c4 (Int32.not_lt.mpr (nI_le (a := 9) z (by omega)))
        rw [if_pos h9] at hK
        exact ⟨S, k, o, x, rfl, rfl, h9, _, _, _, _, _, _, rfl, rfl, hK⟩
      · rw [if_neg (fun z => c4 (nI_lt (b := 9) z (by omega)))] at hK
        exact ⟨_, _, _, _, _, _, rfl, rfl, hK⟩
    · rw [if_pos (Or.inr (Int32.not_le.mp c3))] at hK
      exact ⟨_, _, _, _, _, _, rfl, rfl, hK⟩
  · rw [bI_0.mp c2] at hK
    exact ⟨_, _, _, _, _, _, rfl, rfl, hK⟩
def tX11_least : List q_I := [(0, .aload_n 0, 1, 0, 0), (1, .getfield 16, 3, 0, 0), (4, .iconst 0, 1, 0, 0), (5, .iload_n 1, 1, 0, 0), (6, .invokevirtual 145, 3, 0, 0), (9, .ifCond .eq 15, 3, 0, 24), (12, .aload_n 0, 1, 0, 0), (13, .getfield 16, 3, 0, 0), (16, .iconst 0, 1, 0, 0), (17, .iload_n 2, 1, 0, 0), (18, .invokevirtual 145, 3, 0, 0), (21, .ifCond .ne 9, 3, 0, 30), (24, .aload_n 0, 1, 0, 0), (25, .iconst 1, 1, 1, 0), (26, .invokevirtual 84, 3, 0, 0), (29, .ireturn, 1, 0, 0), (30, .iload_n 3, 1, 0, 0), (31, .invokestatic 152, 3, 0, 0), (34, .ifCond .ne 9, 3, 0, 43), (37, .aload_n 0, 1, 0, 0), (38, .iconst 2, 1, 2, 0), (39, .invokevirtual 84, 3, 0, 0), (42, .ireturn, 1, 0, 0), (43, .aload_n 0, 1, 0, 0), (44, .aload_n 0, 1, 0, 0), (45, .getfield 51, 3, 0, 0), (48, .aload_n 0, 1, 0, 0), (49, .getfield 16, 3, 0, 0), (52, .iload_n 1, 1, 0, 0), (53, .iload_n 2, 1, 0, 0), (54, .iload_n 3, 1, 0, 0), (55, .invokevirtual 247, 3, 0, 0), (58, .invokevirtual 226, 3, 0, 0), (61, .ireturn, 1, 0, 0)]
theorem tX11_least_ok : (tX11_least.all (q_okI cX11_least)) = true := by decide +kernel

abbrev fdX11_least : List (Nat ⊕ (Nat × Nat)) := [.inl 0, .inr (0, 0), .inr (0, 2), .inr (2, 0), .inr (2, 1), .inr (2, 2), .inr (2, 3), .inr (2, 5), .inr (7, 0), .inr (7, 1), .inr (7, 2), .inr (7, 3), .inr (7, 4), .inr (7, 5), .inr (7, 6), .inr (2, 6), .inr (15, 0), .inr (15, 1), .inr (15, 2), .inr (15, 3), .inr (15, 4), .inr (15, 5), .inr (15, 6), .inr (2, 7), .inr (23, 0), .inr (23, 1), .inr (23, 2), .inr (23, 3), .inr (23, 4), .inr (23, 5), .inr (23, 6), .inr (23, 7), .inr (0, 3), .inr (32, 0), .inr (32, 1), .inr (32, 2), .inr (32, 3), .inr (32, 5), .inr (37, 0), .inr (37, 1), .inr (37, 2), .inr (37, 3), .inr (37, 4), .inr (37, 5), .inr (37, 6), .inr (32, 6), .inr (45, 0), .inr (45, 1), .inr (45, 2), .inr (45, 3), .inr (45, 4), .inr (45, 5), .inr (45, 6), .inr (32, 7), .inr (53, 0), .inr (53, 1), .inr (53, 2), .inr (53, 3), .inr (53, 4), .inr (53, 5), .inr (53, 6), .inr (53, 7), .inr (0, 4), .inr (62, 2), .inr (0, 7), .inr (64, 0), .inr (64, 1), .inr (64, 2), .inr (64, 3), .inr (64, 4), .inr (64, 5), .inr (0, 8), .inr (71, 1), .inr (71, 2), .inr (71, 3), .inr (71, 4), .inr (71, 5), .inr (71, 6), .inr (0, 9), .inr (78, 0), .inr (78, 1), .inr (78, 2), .inr (78, 3), .inr (78, 4), .inr (0, 10), .inr (84, 0), .inr (84, 1), .inr (84, 2), .inr (84, 3), .inr (84, 4), .inr (84, 5), .inr (84, 6), .inr (0, 11), .inr (92, 0), .inr (92, 1), .inr (92, 2), .inr (92, 3), .inr (92, 4), .inr (92, 5), .inr (0, 12), .inr (99, 0), .inr (99, 1), .inr (99, 2)]
def spX11_least : q_P := fun a w K => ∃ (tl : Nat) (hb : Bool) (td : Int32) (tr : Int32) (lf : Int32) (tx : Nat → Int32) (rb : Value) (N : NT) (B : BT) (R : RT) (L : LT) (G : GT) (B2 : BT) (R2 : RT) (L2 : LT) (G2 : GT) (P : PT) (W : WT) (S : ST) (Cc : CT) (Y : YT) (D : DT) (n : Nat) (x y d : Int32), w = (stripW 0 tl hb td tr lf tx rb N B R L G B2 R2 L2 G2 P W S Cc Y D) ∧ a = [.ref 0, .int x, .int y, .int d] ∧ rOk R ∧ L_n L ≤ 24 ∧ S.2.2.2.2.2.1 ≤ 9 ∧ B.1 0 = nI n ∧ n ≤ 8 ∧ (if (toldB B.1 0 x && toldB B.1 0 y) = true then (if dayB d = true then ∀ g1 g2, (if (buyF S.2.2.1 S.2.2.2.2.2.1 (fun s => carB R (fun k => fitF S L R d k S.2.2.2.2.2.1) n s x y)).1 = 1000000 then K (.inl (some (.int (-1)))) (stripW 0 tl hb td (6) lf tx rb N B R L G B2 R2 L2 G2 P W (sBgt (sOpn (sFit S g1) g2) (if (buyF S.2.2.1 S.2.2.2.2.2.1 (fun s => carB R (fun k => fitF S L R d k S.2.2.2.2.2.1) n s x y)).1 = 1000000 then S.2.2.2.2.2.2 else (buyF S.2.2.1 S.2.2.2.2.2.1 (fun s => carB R (fun k => fitF S L R d k S.2.2.2.2.2.1) n s x y)).2)) Cc Y D) else K (.inl (some (.int (buyF S.2.2.1 S.2.2.2.2.2.1 (fun s => carB R (fun k => fitF S L R d k S.2.2.2.2.2.1) n s x y)).1))) (stripW 0 tl hb td (0) lf tx rb N B R L G B2 R2 L2 G2 P W (sBgt (sOpn (sFit S g1) g2) (if (buyF S.2.2.1 S.2.2.2.2.2.1 (fun s => carB R (fun k => fitF S L R d k S.2.2.2.2.2.1) n s x y)).1 = 1000000 then S.2.2.2.2.2.2 else (buyF S.2.2.1 S.2.2.2.2.2.1 (fun s => carB R (fun k => fitF S L R d k S.2.2.2.2.2.1) n s x y)).2)) Cc Y D)) else K (.inl (some (.int (-1)))) (stripW 0 tl hb td (2) lf tx rb N B R L G B2 R2 L2 G2 P W S Cc Y D)) else K (.inl (some (.int (-1)))) (stripW 0 tl hb td (1) lf tx rb N B R L G B2 R2 L2 G2 P W S Cc Y D))
abbrev csX11_least : q_S := (4, 11, 4, 4, 0, 0, fdX11_least, spX11_least)
theorem coX11_247 (l : Launch) : q_CO l RX11 247 csX5_buy := ⟨yX5_buy, cX5_buy, (some .int), 4, ⟨by decide +kernel, by decide +kernel, by decide +kernel⟩, q_G_i 13 (by decide +kernel) rfl, Or.inl ⟨by decide, rfl, rfl, q_G_i 983 (by decide +kernel) rfl, q_G_i 984 (by decide +kernel) rfl, q_G_i 985 (by decide +kernel) rfl, Or.inl ⟨q_G_i 986 (by decide +kernel) rfl, ctX5_buy l⟩⟩⟩
def EX11_least : q_E := (tX11_least, [], 4, flX11, [(145, csX0_has), (84, csX11_refuse), (152, csX11_isDay), (247, csX5_buy), (226, csX11_grantWay)], [], [], [], [], [], 4, 0, 0, (some .int), [], [], 0, 0)
theorem okX11_least (l : Launch) : q_Eok l RX11 cX11_least EX11_least := ⟨tX11_least_ok, flX11_ok, List.forall_mem_cons.mpr ⟨(coX11_145 l), List.forall_mem_cons.mpr ⟨(coX11_84 l), List.forall_mem_cons.mpr ⟨(coX11_152 l), List.forall_mem_cons.mpr ⟨(coX11_247 l), List.forall_mem_cons.mpr ⟨(coX11_226 l), q_nil⟩⟩⟩⟩⟩, q_nil, q_nil, q_nil, q_nil, q_nil, (fun h => absurd h (by decide))⟩
set_option maxRecDepth 100000 in
set_option maxHeartbeats 4000000 in
theorem ctX11_least (l : Launch) : q_CT l yX11_least (.code yX11_least cX11_least 4 (some .int)) 4 0 0 spX11_least := by
  refine q_ct_of EX11_least (by decide +kernel) (okX11_least l) rfl rfl rfl rfl rfl q_nil (fun ci h => by cases h) rfl ?_
  intro a w K h
  obtain ⟨tl, hb, td, tr, lf, tx, rb, N, B, R, L, G, B2, R2, L2, G2, P, W, S, Cc, Y, D, n, x, y, d, rfl, rfl, hro, hL, hS, hB, hn, hK⟩ := h
  refine ⟨Nat.le_of_ble_eq_true rfl, fun C hC => hC _ _ _ _ _ _ ?_⟩
  refine ⟨B.1, 0, x, _, _, _, _, _, _, _, rfl, rfl, by decide, And.intro (fun c => ?_) (fun c => ?_)⟩
  · have c : toldB B.1 0 x = false := bI_0.mp c
    rw [c] at hK
    exact ⟨_, _, _, _, _, _, rfl, rfl, hK⟩
  · have c : toldB B.1 0 x = true := bI_n0.mp c
    rw [c, Bool.true_and] at hK
    refine ⟨B.1, 0, y, _, _, _, _, _, _, _, rfl, rfl, by decide, And.intro (fun c2 => ?_) (fun c2 => ?_)⟩
    · have c2 : toldB B.1 0 y = true := bI_n0.mp c2
      rw [if_pos c2] at hK
      refine ⟨d, rfl, rfl, And.intro (fun c3 => ?_) (fun c3 => ?_)⟩
      · have c3 : dayB d = true := bI_n0.mp c3
        rw [if_pos c3] at hK
        refine ⟨S, R, L, B.1, _, n, x, y, d, rfl, rfl, hro, hL, hS, hB, hn, fun g1 g2 => ⟨_, _, _, _, _, _, rfl, rfl, hK g1 g2⟩⟩
      · have c3 : dayB d = false := bI_0.mp c3
        rw [c3] at hK
        exact ⟨_, _, _, _, _, _, rfl, rfl, hK⟩
    · have c2 : toldB B.1 0 y = false := bI_0.mp c2
      rw [c2] at hK
      exact ⟨_, _, _, _, _, _, rfl, rfl, hK⟩
