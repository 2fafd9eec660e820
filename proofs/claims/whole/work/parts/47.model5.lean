
def tX14_first : List q_I := [(0, .aload_n 0, 1, 0, 0), (1, .iconst 0, 1, 0, 0), (2, .putfield 123, 3, 0, 0), (5, .aload_n 0, 1, 0, 0), (6, .iload_n 1, 1, 0, 0), (7, .invokevirtual 417, 3, 0, 0), (10, .ifCond .eq 12, 3, 0, 22), (13, .aload_n 0, 1, 0, 0), (14, .iconst 0, 1, 0, 0), (15, .iload_n 2, 1, 0, 0), (16, .invokevirtual 407, 3, 0, 0), (19, .ifCond .ne 9, 3, 0, 28), (22, .aload_n 0, 1, 0, 0), (23, .iconst 1, 1, 1, 0), (24, .invokevirtual 365, 3, 0, 0), (27, .ireturn, 1, 0, 0), (28, .iload_n 3, 1, 0, 0), (29, .invokestatic 411, 3, 0, 0), (32, .ifCond .ne 9, 3, 0, 41), (35, .aload_n 0, 1, 0, 0), (36, .iconst 2, 1, 2, 0), (37, .invokevirtual 365, 3, 0, 0), (40, .ireturn, 1, 0, 0), (41, .aload_n 0, 1, 0, 0), (42, .iload_n 1, 1, 0, 0), (43, .iload_n 3, 1, 0, 0), (44, .invokevirtual 456, 3, 0, 0), (47, .aload_n 0, 1, 0, 0), (48, .getfield 53, 3, 0, 0), (51, .iload_n 2, 1, 0, 0), (52, .iaload, 1, 0, 0), (53, .ldc_w 321, 3, 0, 0), (56, .if_icmp .ne 12, 3, 0, 68), (59, .aload_n 0, 1, 0, 0), (60, .bipush 6, 2, 6, 0), (62, .invokevirtual 365, 3, 0, 0), (65, .goto 13, 3, 0, 78), (68, .aload_n 0, 1, 0, 0), (69, .aload_n 0, 1, 0, 0), (70, .getfield 53, 3, 0, 0), (73, .iload_n 2, 1, 0, 0), (74, .iaload, 1, 0, 0), (75, .invokevirtual 397, 3, 0, 0), (78, .ireturn, 1, 0, 0)]
theorem tX14_first_ok : (tX14_first.all (q_okI cX14_first)) = true := by decide +kernel

abbrev fdX14_first : List (Nat ⊕ (Nat × Nat)) := [.inl 0, .inr (0, 7), .inr (0, 17), .inr (0, 18), .inr (0, 19), .inr (0, 20), .inr (0, 21), .inr (0, 22), .inr (0, 23), .inr (0, 26), .inr (0, 27), .inr (0, 28), .inr (0, 31), .inr (0, 32), .inr (0, 33), .inr (0, 34), .inr (0, 36), .inr (0, 37), .inr (0, 38), .inr (0, 39), .inr (0, 40), .inr (0, 41), .inr (0, 43), .inr (0, 44), .inr (0, 45), .inr (0, 46), .inr (0, 47), .inr (0, 48), .inr (0, 50), .inr (0, 51), .inr (0, 52), .inr (0, 4), .inr (31, 0), .inr (31, 1), .inr (31, 2), .inr (31, 3), .inr (31, 8), .inr (31, 9), .inr (31, 10), .inr (31, 11), .inr (31, 12), .inr (31, 13), .inr (31, 14), .inr (31, 15), .inr (31, 16), .inr (31, 17), .inr (31, 18), .inr (31, 19), .inr (31, 20), .inr (31, 21), .inr (31, 22), .inr (31, 23), .inr (31, 24), .inr (31, 25), .inr (31, 26), .inr (31, 27), .inr (31, 28)]
def spX14_first : q_P := fun a w K => ∃ (th : Int32) (tr : Int32) (wh : Int32) (fa : Int32) (ta : Nat) (sz : Int32) (ix : Int32) (so : Int32) (pl : Int32) (nu : Int32) (wd : Int64) (td : Int32) (mk : Int32) (mo : Int32) (tx : Nat → Int32) (P : PT) (D : DT) (ea : Nat → Int32) (pa : Nat → Int32) (co : Nat → Int32) (S : ST) (Cc : CT) (V : VT) (ba : Nat → Int32) (B : BT) (R : RT) (L : LT) (G : GT) (n : Nat) (p x d : Int32), w = (modelW 0 (tk 0 5) (tk 0 6) th tr wh fa ta sz ix so pl nu wd td mk mo tx P D ea pa co S Cc V ba B R L G) ∧ a = [.ref 0, .int p, .int x, .int d] ∧ pOk P ∧ pPl P n ∧ rOk R ∧ rEnd R n ∧ L_n L ≤ 24 ∧ B.1 0 = nI n ∧ n ≤ 8 ∧ (if trvR B.1 P p x d = 0 then (if (goF P L R p.toNatClampNeg n (P.1 p.toNatClampNeg).toNatClampNeg mk mo d ea pa).1 x.toNatClampNeg = 1000000 then K (.inl (some (.int (-1)))) (modelW 0 (tk 0 5) (tk 0 6) (0) (6) (-1) fa ta sz ix so pl nu wd td mk mo tx P D ((goF P L R p.toNatClampNeg n (P.1 p.toNatClampNeg).toNatClampNeg mk mo d ea pa).1) ((goF P L R p.toNatClampNeg n (P.1 p.toNatClampNeg).toNatClampNeg mk mo d ea pa).2) co S Cc V ba B R L G) else K (.inl (some (.int ((goF P L R p.toNatClampNeg n (P.1 p.toNatClampNeg).toNatClampNeg mk mo d ea pa).1 x.toNatClampNeg)))) (modelW 0 (tk 0 5) (tk 0 6) (0) (0) (-1) fa ta sz ix so pl nu wd td mk mo tx P D ((goF P L R p.toNatClampNeg n (P.1 p.toNatClampNeg).toNatClampNeg mk mo d ea pa).1) ((goF P L R p.toNatClampNeg n (P.1 p.toNatClampNeg).toNatClampNeg mk mo d ea pa).2) co S Cc V ba B R L G)) else K (.inl (some (.int (-1)))) (modelW 0 (tk 0 5) (tk 0 6) (0) (trvR B.1 P p x d) (-1) fa ta sz ix so pl nu wd td mk mo tx P D ea pa co S Cc V ba B R L G))
abbrev csX14_first : q_S := (4, 14, 6, 4, 0, 0, fdX14_first, spX14_first)
theorem coX14_456 (l : Launch) : q_CO l RX14 456 csX14_goes := ⟨yX14_goes, cX14_goes, none, 2, ⟨by decide +kernel, by decide +kernel, by decide +kernel⟩, q_G_i 17 (by decide +kernel) rfl, Or.inl ⟨by decide, rfl, rfl, q_G_i 1786 (by decide +kernel) rfl, q_G_i 1788 (by decide +kernel) rfl, q_G_s (n := 53) 78 (by decide +kernel), Or.inl ⟨q_G_i 1789 (by decide +kernel) rfl, ctX14_goes l⟩⟩⟩
def EX14_first : q_E := (tX14_first, [], 4, flX14, [(417, csX14_isPerson), (407, csX14_isOf), (365, csX14_refused), (411, csX14_isDay), (456, csX14_goes), (397, csX14_done)], [], [(321, 1000000)], [], [], [], 6, 0, 0, (some .int), [], [], 0, 0)
theorem okX14_first (l : Launch) : q_Eok l RX14 cX14_first EX14_first := ⟨tX14_first_ok, flX14_ok, List.forall_mem_cons.mpr ⟨(coX14_417 l), List.forall_mem_cons.mpr ⟨(coX14_407 l), List.forall_mem_cons.mpr ⟨(coX14_365 l), List.forall_mem_cons.mpr ⟨(coX14_411 l), List.forall_mem_cons.mpr ⟨(coX14_456 l), List.forall_mem_cons.mpr ⟨(coX14_397 l), q_nil⟩⟩⟩⟩⟩⟩, q_nil, List.forall_mem_cons.mpr ⟨q_G_i 1658 (by decide +kernel) rfl, q_nil⟩, q_nil, q_nil, q_nil, (fun h => absurd h (by decide))⟩
set_option maxRecDepth 100000 in
set_option maxHeartbeats 4000000 in
theorem ctX14_first (l : Launch) : q_CT l yX14_first (.code yX14_first cX14_first 4 (some .int)) 6 0 0 spX14_first := by
  refine q_ct_of EX14_first (by decide +kernel) (okX14_first l) rfl rfl rfl rfl rfl q_nil (fun ci h => by cases h) rfl ?_
  intro a w K h
  obtain ⟨th, tr, wh, fa, ta, sz, ix, so, pl, nu, wd, td, mk, mo, tx, P, D, ea, pa, co, S, Cc, V, ba, B, R, L, G, n, p, x, d, rfl, rfl, ho, hpl, hro, hre, hL, hB, hn, hK⟩ := h
  refine ⟨Nat.le_of_ble_eq_true rfl, fun C hC => hC _ _ _ _ _ _ ?_⟩
  refine ⟨_, _, _, _, _, _, _, _, _, _, _, _, _, _, _, _, _, _, _, _, _, _, _, p, rfl, rfl, And.intro (fun c => ?_) (fun c => ⟨_, _, _, _, _, _, _, _, _, _, _, _, _, _, _, _, _, _, _, _, _, _, _, _, 0, x, rfl, rfl, by decide, And.intro (fun c2 => ?_) (fun c2 => ?_)⟩)⟩
  · have c := of_decide_eq_false (bI_0.mp c)
    rw [show trvR B.1 P p x d = 1 from if_neg c] at hK
    exact ⟨_, _, _, _, _, _, _, _, _, _, _, _, _, _, _, _, _, _, _, _, _, _, _, _, rfl, rfl, hK⟩
  · have c := of_decide_eq_true (bI_n0.mp c)
    have e : trvR B.1 P p x d = if dayB d then 0 else 2 := by unfold trvR; rw [if_pos c, if_pos (bI_n0.mp c2)]
    refine ⟨d, rfl, rfl, And.intro (fun c3 => ?_) (fun c3 => ?_)⟩
    · rw [if_pos (bI_n0.mp c3)] at e
      rw [if_pos e] at hK
      obtain ⟨p, rfl, hp⟩ := inI (by have := ho.1; omega) c
      obtain ⟨x, rfl, hx⟩ := toldI hB hn (bI_n0.mp c2)
      obtain ⟨y, hy, hyn⟩ := hpl p hp
      have hcp : (nI p).toNatClampNeg = p := nI_clamp (by have := ho.1; omega)
      have hcx : (nI x).toNatClampNeg = x := nI_clamp (by omega)
      have hcy : (nI y).toNatClampNeg = y := nI_clamp (by omega)
      have hv : vp_in (nI x) 8 := vp_in_nI (by omega) (by omega)
      rw [hcp, hy, hcy, hcx] at hK
      refine ⟨_, _, _, _, _, _, _, _, _, _, _, _, _, _, _, _, _, _, _, _, _, _, _, _, _, _, _, _, n, p, y, d, rfl, rfl, ho, hro, hre, hL, hB, hn, hp, hy, by omega, hv, And.intro (fun c4 => ⟨hv, _, _, _, _, _, _, _, _, _, _, _, _, _, _, _, _, _, _, _, _, _, _, _, _, rfl, rfl, ?_⟩) (fun c4 => ?_)⟩
      · rw [hcx] at c4
        rw [if_neg c4] at hK
        rw [hcx]; exact hK
      · rw [hcx] at c4
        rw [if_pos c4] at hK
        exact ⟨_, _, _, _, _, _, _, _, _, _, _, _, _, _, _, _, _, _, _, _, _, _, _, _, rfl, rfl, hK⟩
    · rw [if_neg (by rw [bI_0.mp c3]; decide)] at e
      rw [e] at hK
      exact ⟨_, _, _, _, _, _, _, _, _, _, _, _, _, _, _, _, _, _, _, _, _, _, _, _, rfl, rfl, hK⟩
  · have c := of_decide_eq_true (bI_n0.mp c)
    rw [show trvR B.1 P p x d = 1 by unfold trvR; rw [if_pos c, if_neg (by rw [bI_0.mp c2]; decide)]] at hK
    exact ⟨_, _, _, _, _, _, _, _, _, _, _, _, _, _, _, _, _, _, _, _, _, _, _, _, rfl, rfl, hK⟩
def payF (P : PT) (L : LT) (R : RT) (p x : Nat) (mk mo d : Int32) (co : Nat → Int32) : Nat → Int32 := coinR R (opnW R L (metB P L R p d) mk mo d) 8 (upd (zf 1000000 co 8) x 0)
def tX14_pays : List q_I := [(0, .iconst 0, 1, 0, 0), (1, .istore_n 3, 1, 0, 0), (2, .iload_n 3, 1, 0, 0), (3, .bipush 8, 2, 8, 0), (5, .if_icmp .ge 32, 3, 0, 37), (8, .aload_n 0, 1, 0, 0), (9, .getfield 60, 3, 0, 0), (12, .iload_n 3, 1, 0, 0), (13, .iload_n 3, 1, 0, 0), (14, .aload_n 0, 1, 0, 0), (15, .getfield 24, 3, 0, 0), (18, .iload_n 1, 1, 0, 0), (19, .iaload, 1, 0, 0), (20, .if_icmp .ne 7, 3, 0, 27), (23, .iconst 0, 1, 0, 0), (24, .goto 6, 3, 0, 30), (27, .ldc_w 321, 3, 0, 0), (30, .iastore, 1, 0, 0), (31, .iinc 3 1, 3, 1, 0), (34, .goto (-32), 3, 0, 2), (37, .iconst 0, 1, 0, 0), (38, .istore_n 3, 1, 0, 0), (39, .iload_n 3, 1, 0, 0), (40, .bipush 8, 2, 8, 0), (42, .if_icmp .ge 164, 3, 0, 206), (45, .iconst 0, 1, 0, 0), (46, .istore 4, 2, 0, 0), (48, .iload 4, 2, 0, 0), (50, .aload_n 0, 1, 0, 0), (51, .getfield 379, 3, 0, 0), (54, .getfield 255, 3, 0, 0), (57, .if_icmp .ge 143, 3, 0, 200), (60, .aload_n 0, 1, 0, 0), (61, .iload_n 1, 1, 0, 0), (62, .iload 4, 2, 0, 0), (64, .iload_n 2, 1, 0, 0), (65, .invokevirtual 441, 3, 0, 0), (68, .ifCond .ne 6, 3, 0, 74), (71, .goto 123, 3, 0, 194), (74, .aload_n 0, 1, 0, 0), (75, .getfield 379, 3, 0, 0), (78, .getfield 258, 3, 0, 0), (81, .iload 4, 2, 0, 0), (83, .iaload, 1, 0, 0), (84, .istore 5, 2, 0, 0), (86, .aload_n 0, 1, 0, 0), (87, .getfield 379, 3, 0, 0), (90, .getfield 264, 3, 0, 0), (93, .iload 4, 2, 0, 0), (95, .iaload, 1, 0, 0), (96, .istore 6, 2, 0, 0), (98, .aload_n 0, 1, 0, 0), (99, .getfield 60, 3, 0, 0), (102, .iload 5, 2, 0, 0), (104, .iaload, 1, 0, 0), (105, .ldc_w 321, 3, 0, 0), (108, .if_icmp .eq 38, 3, 0, 146), (111, .aload_n 0, 1, 0, 0), (112, .getfield 60, 3, 0, 0), (115, .iload 6, 2, 0, 0), (117, .aload_n 0, 1, 0, 0), (118, .getfield 60, 3, 0, 0), (121, .iload 6, 2, 0, 0), (123, .iaload, 1, 0, 0), (124, .aload_n 0, 1, 0, 0), (125, .getfield 60, 3, 0, 0), (128, .iload 5, 2, 0, 0), (130, .iaload, 1, 0, 0), (131, .aload_n 0, 1, 0, 0), (132, .getfield 379, 3, 0, 0), (135, .getfield 281, 3, 0, 0), (138, .iload 4, 2, 0, 0), (140, .iaload, 1, 0, 0), (141, .iadd, 1, 0, 0), (142, .invokestatic 451, 3, 0, 0), (145, .iastore, 1, 0, 0), (146, .aload_n 0, 1, 0, 0), (147, .getfield 60, 3, 0, 0), (150, .iload 6, 2, 0, 0), (152, .iaload, 1, 0, 0), (153, .ldc_w 321, 3, 0, 0), (156, .if_icmp .eq 38, 3, 0, 194), (159, .aload_n 0, 1, 0, 0), (160, .getfield 60, 3, 0, 0), (163, .iload 5, 2, 0, 0), (165, .aload_n 0, 1, 0, 0), (166, .getfield 60, 3, 0, 0), (169, .iload 5, 2, 0, 0), (171, .iaload, 1, 0, 0), (172, .aload_n 0, 1, 0, 0), (173, .getfield 60, 3, 0, 0), (176, .iload 6, 2, 0, 0), (178, .iaload, 1, 0, 0), (179, .aload_n 0, 1, 0, 0), (180, .getfield 379, 3, 0, 0), (183, .getfield 281, 3, 0, 0), (186, .iload 4, 2, 0, 0), (188, .iaload, 1, 0, 0), (189, .iadd, 1, 0, 0), (190, .invokestatic 451, 3, 0, 0), (193, .iastore, 1, 0, 0), (194, .iinc 4 1, 3, 1, 0), (197, .goto (-149), 3, 0, 48), (200, .iinc 3 1, 3, 1, 0), (203, .goto (-164), 3, 0, 39), (206, .return_, 1, 0, 0)]
theorem tX14_pays_ok : (tX14_pays.all (q_okI cX14_pays)) = true := by decide +kernel

abbrev fdX14_pays : List (Nat ⊕ (Nat × Nat)) := [.inl 0, .inr (0, 7), .inr (0, 17), .inr (0, 18), .inr (0, 19), .inr (0, 20), .inr (0, 21), .inr (0, 22), .inr (0, 23), .inr (0, 26), .inr (0, 27), .inr (0, 28), .inr (0, 31), .inr (0, 32), .inr (0, 33), .inr (0, 34), .inr (0, 36), .inr (0, 37), .inr (0, 38), .inr (0, 39), .inr (0, 40), .inr (0, 41), .inr (0, 43), .inr (0, 44), .inr (0, 45), .inr (0, 46), .inr (0, 47), .inr (0, 48), .inr (0, 50), .inr (0, 51), .inr (0, 52), .inr (0, 4), .inr (31, 0), .inr (31, 1), .inr (31, 2), .inr (31, 3), .inr (31, 8), .inr (31, 9), .inr (31, 10), .inr (31, 11), .inr (31, 12), .inr (31, 13), .inr (31, 14), .inr (31, 15), .inr (31, 16), .inr (31, 17), .inr (31, 18), .inr (31, 19), .inr (31, 20), .inr (31, 21), .inr (31, 22), .inr (31, 23), .inr (31, 24), .inr (31, 25), .inr (31, 26), .inr (31, 27), .inr (31, 28)]
def spX14_pays : q_P := fun a w K => ∃ (th : Int32) (tr : Int32) (wh : Int32) (fa : Int32) (ta : Nat) (sz : Int32) (ix : Int32) (so : Int32) (pl : Int32) (nu : Int32) (wd : Int64) (td : Int32) (mk : Int32) (mo : Int32) (tx : Nat → Int32) (P : PT) (D : DT) (ea : Nat → Int32) (pa : Nat → Int32) (co : Nat → Int32) (S : ST) (Cc : CT) (V : VT) (ba : Nat → Int32) (B : BT) (R : RT) (L : LT) (G : GT) (n p x : Nat) (d : Int32), w = (modelW 0 (tk 0 5) (tk 0 6) th tr wh fa ta sz ix so pl nu wd td mk mo tx P D ea pa co S Cc V ba B R L G) ∧ a = [.ref 0, .int (nI p), .int d] ∧ pOk P ∧ rOk R ∧ rEnd R n ∧ L_n L ≤ 24 ∧ n ≤ 8 ∧ p < P.2.2.2.2.2.2 ∧ P.1 p = nI x ∧ x < 8 ∧ K (.inl none) (modelW 0 (tk 0 5) (tk 0 6) th tr wh fa ta sz ix so pl nu wd td mk mo tx P D ea pa (payF P L R p x mk mo d co) S Cc V ba B R L G)
abbrev csX14_pays : q_S := (3, 14, 4, 7, 0, 0, fdX14_pays, spX14_pays)
def EX14_pays : q_E := (tX14_pays, [(2, [0, 1, 2, 3]), (39, [0, 1, 2, 3]), (48, [0, 1, 2, 3, 4])], 7, flX14, [(441, csX14_isOpen)], [], [(321, 1000000)], [], [], [(451, 2)], 4, 0, 0, none, [], [], 0, 0)
theorem okX14_pays (l : Launch) : q_Eok l RX14 cX14_pays EX14_pays := ⟨tX14_pays_ok, flX14_ok, List.forall_mem_cons.mpr ⟨(coX14_441 l), q_nil⟩, q_nil, List.forall_mem_cons.mpr ⟨q_G_i 1658 (by decide +kernel) rfl, q_nil⟩, q_nil, List.forall_mem_cons.mpr ⟨Or.inr (Or.inr ⟨rfl, q_G_i 1798 (by decide +kernel) rfl⟩), q_nil⟩, q_nil, (fun h => absurd h (by decide))⟩
set_option maxRecDepth 100000 in
set_option maxHeartbeats 4000000 in
theorem ctX14_pays (l : Launch) : q_CT l yX14_pays (.code yX14_pays cX14_pays 7 none) 4 0 0 spX14_pays := by
  refine q_ct_of EX14_pays (by decide +kernel) (okX14_pays l) rfl rfl rfl rfl rfl q_nil (fun ci h => by cases h) rfl ?_
  intro a w K h
  obtain ⟨th, tr, wh, fa, ta, sz, ix, so, pl, nu, wd, td, mk, mo, tx, P, D, ea, pa, co, S, Cc, V, ba, B, R, L, G, n, p, x, d, rfl, rfl, ho, hro, hre, hL, hn, hp, hx, hx8, hK⟩ := h
  obtain ⟨p1, p2, p3, p4, p5⟩ := pOk_ix ho hp
  have hrn := hro.1
  refine ⟨Nat.le_of_ble_eq_true rfl, fun C hC => ?_⟩
  have outer : ∀ k t f, t + k = 8 → K (.inl none) (modelW 0 (tk 0 5) (tk 0 6) th tr wh fa ta sz ix so pl nu wd td mk mo tx P D ea pa (coinR R (opnW R L (metB P L R p d) mk mo d) k f) S Cc V ba B R L G) → C 39 [(0, .ref 0), (1, .int (nI p)), (2, .int d), (3, .int (nI t))] [] (modelW 0 (tk 0 5) (tk 0 6) th tr wh fa ta sz ix so pl nu wd td mk mo tx P D ea pa (f) S Cc V ba B R L G) 0 0 := by
    intro k
    induction k with
    | zero =>
      intro t f ht hK
      have ht : t = 8 := ht
      subst ht
      exact hC _ _ _ _ _ _ (And.intro (fun c => hK) (fun c => absurd (show (8 : Int32) ≤ nI 8 by decide) c))
    | succ k ih =>
      intro t f ht hK
      have inner : ∀ k2 j f, j + k2 = R.2.2.2.2.2.2.2 → K (.inl none) (modelW 0 (tk 0 5) (tk 0 6) th tr wh fa ta sz ix so pl nu wd td mk mo tx P D ea pa (coinR R (opnW R L (metB P L R p d) mk mo d) k (foldF (fun f r => if opnW R L (metB P L R p d) mk mo d r then coinE R f r else f) j k2 f)) S Cc V ba B R L G) → C 48 [(0, .ref 0), (1, .int (nI p)), (2, .int d), (3, .int (nI t)), (4, .int (nI j))] [] (modelW 0 (tk 0 5) (tk 0 6) th tr wh fa ta sz ix so pl nu wd td mk mo tx P D ea pa (f) S Cc V ba B R L G) 0 0 := by
        intro k2
        induction k2 with
        | zero =>
          intro j f hj hK
          have h9 := ih (t + 1) f (by omega) hK
          rw [← nI_1] at h9
          exact hC _ _ _ _ _ _ (And.intro (fun c3 => h9) (fun c3 => absurd (nI_le (by omega) (by omega)) c3))
        | succ k2 ih2 =>
          intro j f hj hK
          have hrj : j < R.2.2.2.2.2.2.2 := by omega
          have hc : (nI j).toNatClampNeg = j := nI_clamp (by omega)
          have hv : vp_in (nI j) 16 := vp_in_nI (by omega) (by omega)
          obtain ⟨a, b, ha, hb, han, hbn⟩ := hre j hrj
          have va : vp_in (R.1 (nI j).toNatClampNeg) 8 := by rw [hc, ha]; exact vp_in_nI (by omega) (by omega)
          have vb : vp_in (R.2.1 (nI j).toNatClampNeg) 8 := by rw [hc, hb]; exact vp_in_nI (by omega) (by omega)
          rw [foldF] at hK
          refine hC _ _ _ _ _ _ (And.intro (fun c3 => absurd c3 (nI_ge (by omega) (by omega))) (fun c3 => ⟨_, _, _, _, _, _, _, _, _, _, _, _, _, _, _, _, _, _, _, _, _, _, _, _, _, _, _, _, p, j, d, rfl, rfl, ho, hro, hL, hp, hrj, And.intro (fun c4 => ?_) (fun c4 => ?_)⟩))
          · rw [if_pos (bI_n0.mp c4)] at hK
            have h9 := ih2 (j + 1) (coinE R f j) (by omega) hK
            have h9 : C 48 [(0, .ref 0), (1, .int (nI p)), (2, .int d), (3, .int (nI t)), (4, .int (nI j + 1))] [] (modelW 0 (tk 0 5) (tk 0 6) th tr wh fa ta sz ix so pl nu wd td mk mo tx P D ea pa (coinE R f (nI j).toNatClampNeg) S Cc V ba B R L G) 0 0 := by rw [hc, nI_1]; exact h9
            refine ⟨hv, hv, va, And.intro (fun c => ⟨vb, And.intro (fun c2 => ?_) (fun c2 => ⟨va, vb, hv, va, ?_⟩)⟩) (fun c => ⟨vb, va, hv, vb, vb, And.intro (fun c2 => ?_) (fun c2 => ⟨va, vb, hv, va, ?_⟩)⟩)⟩
            · have c : f (R.1 (nI j).toNatClampNeg).toNatClampNeg = 1000000 := c
              have c2 : f (R.2.1 (nI j).toNatClampNeg).toNatClampNeg = 1000000 := c2
              rw [coinE, lowE, if_pos c, if_pos c2] at h9; exact h9
            · have c : f (R.1 (nI j).toNatClampNeg).toNatClampNeg = 1000000 := c
              have c2 : ¬ f (R.2.1 (nI j).toNatClampNeg).toNatClampNeg = 1000000 := c2
              rw [coinE, lowE, if_pos c, if_neg c2] at h9; exact h9
            · have c : ¬ f (R.1 (nI j).toNatClampNeg).toNatClampNeg = 1000000 := c
              rw [coinE, lowE, if_neg c, if_pos c2] at h9; exact h9
            · have c : ¬ f (R.1 (nI j).toNatClampNeg).toNatClampNeg = 1000000 := c
              rw [coinE, lowE, if_neg c, if_neg c2] at h9; exact h9
          · rw [if_neg (by rw [bI_0.mp c4]; decide)] at hK
            have h9 := ih2 (j + 1) f (by omega) hK
            rw [← nI_1] at h9
            exact h9
      exact hC _ _ _ _ _ _ (And.intro (fun c => absurd c (nI_ge (b := 8) (by omega) (by omega))) (fun c => inner R.2.2.2.2.2.2.2 0 f (by omega) hK))
  have ini : ∀ m i, i + m = 8 → C 2 [(0, .ref 0), (1, .int (nI p)), (2, .int d), (3, .int (nI i))] [] (modelW 0 (tk 0 5) (tk 0 6) th tr wh fa ta sz ix so pl nu wd td mk mo tx P D ea pa (goE x 0 co i) S Cc V ba B R L G) 0 0 := by
    intro m
    induction m with
    | zero =>
      intro i hi
      have hi : i = 8 := hi
      subst hi
      refine hC _ _ _ _ _ _ (And.intro (fun _ => ?_) (fun c => absurd (show (8 : Int32) ≤ nI 8 by decide) c))
      rw [goE_8 hx8]
      exact outer 8 0 _ (by omega) hK
    | succ m ih =>
      intro i hi
      have hv : vp_in (nI i) 8 := vp_in_nI (by omega) (by omega)
      have hc : (nI i).toNatClampNeg = i := nI_clamp (by omega)
      have h9 := ih (i + 1) (by omega)
      rw [← goE_s, ← nI_1] at h9
      refine hC _ _ _ _ _ _ (And.intro (fun c => absurd c (nI_ge (b := 8) (by omega) (by omega))) (fun _ => ⟨p1, And.intro (fun c => ⟨hv, ?_⟩) (fun c => ⟨hv, ?_⟩)⟩))
      · rw [p2, hx] at c
        rw [if_neg (fun z => c (by rw [z]))] at h9
        rw [hc]; exact h9
      · rw [p2, hx] at c
        rw [if_pos (by
          rcases Nat.decEq i x with z | z
          · exact absurd c (nI_ne z (by omega) (by omega))
          · exact z)] at h9
        rw [hc]; exact h9
  have h9 := ini 8 0 (by omega)
  rw [goE_0] at h9
  exact hC _ _ _ _ _ _ h9
def tX14_cheap : List q_I := [(0, .aload_n 0, 1, 0, 0), (1, .iconst 0, 1, 0, 0), (2, .putfield 123, 3, 0, 0), (5, .aload_n 0, 1, 0, 0), (6, .iload_n 1, 1, 0, 0), (7, .invokevirtual 417, 3, 0, 0), (10, .ifCond .eq 12, 3, 0, 22), (13, .aload_n 0, 1, 0, 0), (14, .iconst 0, 1, 0, 0), (15, .iload_n 2, 1, 0, 0), (16, .invokevirtual 407, 3, 0, 0), (19, .ifCond .ne 9, 3, 0, 28), (22, .aload_n 0, 1, 0, 0), (23, .iconst 1, 1, 1, 0), (24, .invokevirtual 365, 3, 0, 0), (27, .ireturn, 1, 0, 0), (28, .iload_n 3, 1, 0, 0), (29, .invokestatic 411, 3, 0, 0), (32, .ifCond .ne 9, 3, 0, 41), (35, .aload_n 0, 1, 0, 0), (36, .iconst 2, 1, 2, 0), (37, .invokevirtual 365, 3, 0, 0), (40, .ireturn, 1, 0, 0), (41, .aload_n 0, 1, 0, 0), (42, .iload_n 1, 1, 0, 0), (43, .iload_n 3, 1, 0, 0), (44, .invokevirtual 459, 3, 0, 0), (47, .aload_n 0, 1, 0, 0), (48, .getfield 60, 3, 0, 0), (51, .iload_n 2, 1, 0, 0), (52, .iaload, 1, 0, 0), (53, .ldc_w 321, 3, 0, 0), (56, .if_icmp .ne 12, 3, 0, 68), (59, .aload_n 0, 1, 0, 0), (60, .bipush 6, 2, 6, 0), (62, .invokevirtual 365, 3, 0, 0), (65, .goto 13, 3, 0, 78), (68, .aload_n 0, 1, 0, 0), (69, .aload_n 0, 1, 0, 0), (70, .getfield 60, 3, 0, 0), (73, .iload_n 2, 1, 0, 0), (74, .iaload, 1, 0, 0), (75, .invokevirtual 397, 3, 0, 0), (78, .ireturn, 1, 0, 0)]
theorem tX14_cheap_ok : (tX14_cheap.all (q_okI cX14_cheap)) = true := by decide +kernel

abbrev fdX14_cheap : List (Nat ⊕ (Nat × Nat)) := [.inl 0, .inr (0, 7), .inr (0, 17), .inr (0, 18), .inr (0, 19), .inr (0, 20), .inr (0, 21), .inr (0, 22), .inr (0, 23), .inr (0, 26), .inr (0, 27), .inr (0, 28), .inr (0, 31), .inr (0, 32), .inr (0, 33), .inr (0, 34), .inr (0, 36), .inr (0, 37), .inr (0, 38), .inr (0, 39), .inr (0, 40), .inr (0, 41), .inr (0, 43), .inr (0, 44), .inr (0, 45), .inr (0, 46), .inr (0, 47), .inr (0, 48), .inr (0, 50), .inr (0, 51), .inr (0, 52), .inr (0, 4), .inr (31, 0), .inr (31, 1), .inr (31, 2), .inr (31, 3), .inr (31, 8), .inr (31, 9), .inr (31, 10), .inr (31, 11), .inr (31, 12), .inr (31, 13), .inr (31, 14), .inr (31, 15), .inr (31, 16), .inr (31, 17), .inr (31, 18), .inr (31, 19), .inr (31, 20), .inr (31, 21), .inr (31, 22), .inr (31, 23), .inr (31, 24), .inr (31, 25), .inr (31, 26), .inr (31, 27), .inr (31, 28)]
def spX14_cheap : q_P := fun a w K => ∃ (th : Int32) (tr : Int32) (wh : Int32) (fa : Int32) (ta : Nat) (sz : Int32) (ix : Int32) (so : Int32) (pl : Int32) (nu : Int32) (wd : Int64) (td : Int32) (mk : Int32) (mo : Int32) (tx : Nat → Int32) (P : PT) (D : DT) (ea : Nat → Int32) (pa : Nat → Int32) (co : Nat → Int32) (S : ST) (Cc : CT) (V : VT) (ba : Nat → Int32) (B : BT) (R : RT) (L : LT) (G : GT) (n : Nat) (p x d : Int32), w = (modelW 0 (tk 0 5) (tk 0 6) th tr wh fa ta sz ix so pl nu wd td mk mo tx P D ea pa co S Cc V ba B R L G) ∧ a = [.ref 0, .int p, .int x, .int d] ∧ pOk P ∧ pPl P n ∧ rOk R ∧ rEnd R n ∧ L_n L ≤ 24 ∧ B.1 0 = nI n ∧ n ≤ 8 ∧ (if trvR B.1 P p x d = 0 then (if payF P L R p.toNatClampNeg (P.1 p.toNatClampNeg).toNatClampNeg mk mo d co x.toNatClampNeg = 1000000 then K (.inl (some (.int (-1)))) (modelW 0 (tk 0 5) (tk 0 6) (0) (6) (-1) fa ta sz ix so pl nu wd td mk mo tx P D ea pa (payF P L R p.toNatClampNeg (P.1 p.toNatClampNeg).toNatClampNeg mk mo d co) S Cc V ba B R L G) else K (.inl (some (.int (payF P L R p.toNatClampNeg (P.1 p.toNatClampNeg).toNatClampNeg mk mo d co x.toNatClampNeg)))) (modelW 0 (tk 0 5) (tk 0 6) (0) (0) (-1) fa ta sz ix so pl nu wd td mk mo tx P D ea pa (payF P L R p.toNatClampNeg (P.1 p.toNatClampNeg).toNatClampNeg mk mo d co) S Cc V ba B R L G)) else K (.inl (some (.int (-1)))) (modelW 0 (tk 0 5) (tk 0 6) (0) (trvR B.1 P p x d) (-1) fa ta sz ix so pl nu wd td mk mo tx P D ea pa co S Cc V ba B R L G))
abbrev csX14_cheap : q_S := (4, 14, 5, 4, 0, 0, fdX14_cheap, spX14_cheap)
theorem coX14_459 (l : Launch) : q_CO l RX14 459 csX14_pays := ⟨yX14_pays, cX14_pays, none, 2, ⟨by decide +kernel, by decide +kernel, by decide +kernel⟩, q_G_i 17 (by decide +kernel) rfl, Or.inl ⟨by decide, rfl, rfl, q_G_i 1803 (by decide +kernel) rfl, q_G_i 1805 (by decide +kernel) rfl, q_G_s (n := 53) 81 (by decide +kernel), Or.inl ⟨q_G_i 1806 (by decide +kernel) rfl, ctX14_pays l⟩⟩⟩
def EX14_cheap : q_E := (tX14_cheap, [], 4, flX14, [(417, csX14_isPerson), (407, csX14_isOf), (365, csX14_refused), (411, csX14_isDay), (459, csX14_pays), (397, csX14_done)], [], [(321, 1000000)], [], [], [], 5, 0, 0, (some .int), [], [], 0, 0)
theorem okX14_cheap (l : Launch) : q_Eok l RX14 cX14_cheap EX14_cheap := ⟨tX14_cheap_ok, flX14_ok, List.forall_mem_cons.mpr ⟨(coX14_417 l), List.forall_mem_cons.mpr ⟨(coX14_407 l), List.forall_mem_cons.mpr ⟨(coX14_365 l), List.forall_mem_cons.mpr ⟨(coX14_411 l), List.forall_mem_cons.mpr ⟨(coX14_459 l), List.forall_mem_cons.mpr ⟨(coX14_397 l), q_nil⟩⟩⟩⟩⟩⟩, q_nil, List.forall_mem_cons.mpr ⟨q_G_i 1658 (by decide +kernel) rfl, q_nil⟩, q_nil, q_nil, q_nil, (fun h => absurd h (by decide))⟩
set_option maxRecDepth 100000 in
set_option maxHeartbeats 4000000 in
theorem ctX14_cheap (l : Launch) : q_CT l yX14_cheap (.code yX14_cheap cX14_cheap 4 (some .int)) 5 0 0 spX14_cheap := by
  refine q_ct_of EX14_cheap (by decide +kernel) (okX14_cheap l) rfl rfl rfl rfl rfl q_nil (fun ci h => by cases h) rfl ?_
  intro a w K h
  obtain ⟨th, tr, wh, fa, ta, sz, ix, so, pl, nu, wd, td, mk, mo, tx, P, D, ea, pa, co, S, Cc, V, ba, B, R, L, G, n, p, x, d, rfl, rfl, ho, hpl, hro, hre, hL, hB, hn, hK⟩ := h
  refine ⟨Nat.le_of_ble_eq_true rfl, fun C hC => hC _ _ _ _ _ _ ?_⟩
  refine ⟨_, _, _, _, _, _, _, _, _, _, _, _, _, _, _, _, _, _, _, _, _, _, _, p, rfl, rfl, And.intro (fun c => ?_) (fun c => ⟨_, _, _, _, _, _, _, _, _, _, _, _, _, _, _, _, _, _, _, _, _, _, _, _, 0, x, rfl, rfl, by decide, And.intro (fun c2 => ?_) (fun c2 => ?_)⟩)⟩
  · have c := of_decide_eq_false (bI_0.mp c)
    rw [show trvR B.1 P p x d = 1 from if_neg c] at hK
    exact ⟨_, _, _, _, _, _, _, _, _, _, _, _, _, _, _, _, _, _, _, _, _, _, _, _, rfl, rfl, hK⟩
  · have c := of_decide_eq_true (bI_n0.mp c)
    have e : trvR B.1 P p x d = if dayB d then 0 else 2 := by unfold trvR; rw [if_pos c, if_pos (bI_n0.mp c2)]
    refine ⟨d, rfl, rfl, And.intro (fun c3 => ?_) (fun c3 => ?_)⟩
    · rw [if_pos (bI_n0.mp c3)] at e
      rw [if_pos e] at hK
      obtain ⟨p, rfl, hp⟩ := inI (by have := ho.1; omega) c
      obtain ⟨x, rfl, hx⟩ := toldI hB hn (bI_n0.mp c2)
      obtain ⟨y, hy, hyn⟩ := hpl p hp
      have hcp : (nI p).toNatClampNeg = p := nI_clamp (by have := ho.1; omega)
      have hcx : (nI x).toNatClampNeg = x := nI_clamp (by omega)
      have hcy : (nI y).toNatClampNeg = y := nI_clamp (by omega)
      have hv : vp_in (nI x) 8 := vp_in_nI (by omega) (by omega)
      rw [hcp, hy, hcy, hcx] at hK
      refine ⟨_, _, _, _, _, _, _, _, _, _, _, _, _, _, _, _, _, _, _, _, _, _, _, _, _, _, _, _, n, p, y, d, rfl, rfl, ho, hro, hre, hL, hn, hp, hy, by omega, hv, And.intro (fun c4 => ⟨hv, _, _, _, _, _, _, _, _, _, _, _, _, _, _, _, _, _, _, _, _, _, _, _, _, rfl, rfl, ?_⟩) (fun c4 => ?_)⟩
      · rw [hcx] at c4
        rw [if_neg c4] at hK
        rw [hcx]; exact hK
      · rw [hcx] at c4
        rw [if_pos c4] at hK
        exact ⟨_, _, _, _, _, _, _, _, _, _, _, _, _, _, _, _, _, _, _, _, _, _, _, _, rfl, rfl, hK⟩
    · rw [if_neg (by rw [bI_0.mp c3]; decide)] at e
      rw [e] at hK
      exact ⟨_, _, _, _, _, _, _, _, _, _, _, _, _, _, _, _, _, _, _, _, _, _, _, _, rfl, rfl, hK⟩
  · have c := of_decide_eq_true (bI_n0.mp c)
    rw [show trvR B.1 P p x d = 1 by unfold trvR; rw [if_pos c, if_neg (by rw [bI_0.mp c2]; decide)]] at hK
    exact ⟨_, _, _, _, _, _, _, _, _, _, _, _, _, _, _, _, _, _, _, _, _, _, _, _, rfl, rfl, hK⟩
def rcN (co : Nat → Int32) : Nat → Nat
  | 0 => 0
  | i + 1 => rcN co i + (if co i = 1000000 then 0 else 1)
def tX14_reached : List q_I := [(0, .aload_n 0, 1, 0, 0), (1, .iload_n 1, 1, 0, 0), (2, .iload_n 2, 1, 0, 0), (3, .invokevirtual 459, 3, 0, 0), (6, .iconst 0, 1, 0, 0), (7, .istore_n 3, 1, 0, 0), (8, .iconst 0, 1, 0, 0), (9, .istore 4, 2, 0, 0), (11, .iload 4, 2, 0, 0), (13, .aload_n 0, 1, 0, 0), (14, .getfield 379, 3, 0, 0), (17, .getfield 246, 3, 0, 0), (20, .iconst 0, 1, 0, 0), (21, .iaload, 1, 0, 0), (22, .if_icmp .ge 30, 3, 0, 52), (25, .iload_n 3, 1, 0, 0), (26, .aload_n 0, 1, 0, 0), (27, .getfield 60, 3, 0, 0), (30, .iload 4, 2, 0, 0), (32, .iaload, 1, 0, 0), (33, .ldc_w 321, 3, 0, 0), (36, .if_icmp .ne 7, 3, 0, 43), (39, .iconst 0, 1, 0, 0), (40, .goto 4, 3, 0, 44), (43, .iconst 1, 1, 1, 0), (44, .iadd, 1, 0, 0), (45, .istore_n 3, 1, 0, 0), (46, .iinc 4 1, 3, 1, 0), (49, .goto (-38), 3, 0, 11), (52, .iload_n 3, 1, 0, 0), (53, .ireturn, 1, 0, 0)]
theorem tX14_reached_ok : (tX14_reached.all (q_okI cX14_reached)) = true := by decide +kernel

abbrev fdX14_reached : List (Nat ⊕ (Nat × Nat)) := [.inl 0, .inr (0, 7), .inr (0, 17), .inr (0, 18), .inr (0, 19), .inr (0, 20), .inr (0, 21), .inr (0, 22), .inr (0, 23), .inr (0, 26), .inr (0, 27), .inr (0, 28), .inr (0, 31), .inr (0, 32), .inr (0, 33), .inr (0, 34), .inr (0, 36), .inr (0, 37), .inr (0, 38), .inr (0, 39), .inr (0, 40), .inr (0, 41), .inr (0, 43), .inr (0, 44), .inr (0, 45), .inr (0, 46), .inr (0, 47), .inr (0, 48), .inr (0, 50), .inr (0, 51), .inr (0, 52), .inr (0, 4), .inr (31, 0), .inr (31, 1), .inr (31, 2), .inr (31, 3), .inr (31, 8), .inr (31, 9), .inr (31, 10), .inr (31, 11), .inr (31, 12), .inr (31, 13), .inr (31, 14), .inr (31, 15), .inr (31, 16), .inr (31, 17), .inr (31, 18), .inr (31, 19), .inr (31, 20), .inr (31, 21), .inr (31, 22), .inr (31, 23), .inr (31, 24), .inr (31, 25), .inr (31, 26), .inr (31, 27), .inr (31, 28)]
def spX14_reached : q_P := fun a w K => ∃ (th : Int32) (tr : Int32) (wh : Int32) (fa : Int32) (ta : Nat) (sz : Int32) (ix : Int32) (so : Int32) (pl : Int32) (nu : Int32) (wd : Int64) (td : Int32) (mk : Int32) (mo : Int32) (tx : Nat → Int32) (P : PT) (D : DT) (ea : Nat → Int32) (pa : Nat → Int32) (co : Nat → Int32) (S : ST) (Cc : CT) (V : VT) (ba : Nat → Int32) (B : BT) (R : RT) (L : LT) (G : GT) (n p x : Nat) (d : Int32), w = (modelW 0 (tk 0 5) (tk 0 6) th tr wh fa ta sz ix so pl nu wd td mk mo tx P D ea pa co S Cc V ba B R L G) ∧ a = [.ref 0, .int (nI p), .int d] ∧ pOk P ∧ rOk R ∧ rEnd R n ∧ L_n L ≤ 24 ∧ B.1 0 = nI n ∧ n ≤ 8 ∧ p < P.2.2.2.2.2.2 ∧ P.1 p = nI x ∧ x < 8 ∧ K (.inl (some (.int (nI (rcN (payF P L R p x mk mo d co) n))))) (modelW 0 (tk 0 5) (tk 0 6) th tr wh fa ta sz ix so pl nu wd td mk mo tx P D ea pa (payF P L R p x mk mo d co) S Cc V ba B R L G)
abbrev csX14_reached : q_S := (3, 14, 5, 5, 0, 0, fdX14_reached, spX14_reached)
def EX14_reached : q_E := (tX14_reached, [(11, [0, 3, 4])], 5, flX14, [(459, csX14_pays)], [], [(321, 1000000)], [], [], [], 5, 0, 0, (some .int), [], [], 0, 0)
theorem okX14_reached (l : Launch) : q_Eok l RX14 cX14_reached EX14_reached := ⟨tX14_reached_ok, flX14_ok, List.forall_mem_cons.mpr ⟨(coX14_459 l), q_nil⟩, q_nil, List.forall_mem_cons.mpr ⟨q_G_i 1658 (by decide +kernel) rfl, q_nil⟩, q_nil, q_nil, q_nil, (fun h => absurd h (by decide))⟩
set_option maxRecDepth 100000 in
set_option maxHeartbeats 4000000 in
theorem ctX14_reached (l : Launch) : q_CT l yX14_reached (.code yX14_reached cX14_reached 5 (some .int)) 5 0 0 spX14_reached := by
  refine q_ct_of EX14_reached (by decide +kernel) (okX14_reached l) rfl rfl rfl rfl rfl q_nil (fun ci h => by cases h) rfl ?_
  intro a w K h
  obtain ⟨th, tr, wh, fa, ta, sz, ix, so, pl, nu, wd, td, mk, mo, tx, P, D, ea, pa, co, S, Cc, V, ba, B, R, L, G, n, p, x, d, rfl, rfl, ho, hro, hre, hL, hB, hn, hp, hx, hx8, hK⟩ := h
  have h0 : vp_in (0 : Int32) 4 := vp_in_nI (n := 0) (by decide) (by decide)
  refine ⟨Nat.le_of_ble_eq_true rfl, fun C hC => hC _ _ _ _ _ _ ?_⟩
  refine ⟨_, _, _, _, _, _, _, _, _, _, _, _, _, _, _, _, _, _, _, _, _, _, _, _, _, _, _, _, n, p, x, d, rfl, rfl, ho, hro, hre, hL, hn, hp, hx, hx8, ?_⟩
  generalize payF P L R p x mk mo d co = f at hK ⊢
  have loop : ∀ k i, i + k = n → C 11 [(0, .ref 0), (3, .int (nI (rcN f i))), (4, .int (nI i))] [] (modelW 0 (tk 0 5) (tk 0 6) th tr wh fa ta sz ix so pl nu wd td mk mo tx P D ea pa (f) S Cc V ba B R L G) 0 0 := by
    intro k
    induction k with
    | zero =>
      intro i hi
      have hi : i = n := hi
      subst hi
      exact hC _ _ _ _ _ _ ⟨h0, And.intro (fun c => hK) (fun c => absurd (show B.1 0 ≤ nI i by rw [hB]; exact nI_le (by omega) (by omega)) c)⟩
    | succ k ih =>
      intro i hi
      have hv : vp_in (nI i) 8 := vp_in_nI (by omega) (by omega)
      have hc : (nI i).toNatClampNeg = i := nI_clamp (by omega)
      have h9 := ih (i + 1) (by omega)
      rw [rcN, ← nI_1] at h9
      refine hC _ _ _ _ _ _ ⟨h0, And.intro (fun c => absurd (show B.1 0 ≤ nI i from c) (by rw [hB]; exact nI_ge (by omega) (by omega))) (fun c => ⟨hv, And.intro (fun c2 => ?_) (fun c2 => ?_)⟩)⟩
      · rw [hc] at c2
        rw [if_neg c2, ← nI_1] at h9
        exact h9
      · rw [hc] at c2
        rw [if_pos c2, ← nI_add] at h9
        exact h9
  exact loop n 0 (by omega)
def tX14_reach : List q_I := [(0, .aload_n 0, 1, 0, 0), (1, .iconst 0, 1, 0, 0), (2, .putfield 123, 3, 0, 0), (5, .aload_n 0, 1, 0, 0), (6, .iload_n 1, 1, 0, 0), (7, .invokevirtual 417, 3, 0, 0), (10, .ifCond .ne 9, 3, 0, 19), (13, .aload_n 0, 1, 0, 0), (14, .iconst 1, 1, 1, 0), (15, .invokevirtual 365, 3, 0, 0), (18, .ireturn, 1, 0, 0), (19, .iload_n 2, 1, 0, 0), (20, .invokestatic 411, 3, 0, 0), (23, .ifCond .eq 16, 3, 0, 39), (26, .aload_n 0, 1, 0, 0), (27, .aload_n 0, 1, 0, 0), (28, .iload_n 1, 1, 0, 0), (29, .iload_n 2, 1, 0, 0), (30, .invokevirtual 462, 3, 0, 0), (33, .invokevirtual 397, 3, 0, 0), (36, .goto 8, 3, 0, 44), (39, .aload_n 0, 1, 0, 0), (40, .iconst 2, 1, 2, 0), (41, .invokevirtual 365, 3, 0, 0), (44, .ireturn, 1, 0, 0)]
theorem tX14_reach_ok : (tX14_reach.all (q_okI cX14_reach)) = true := by decide +kernel

abbrev fdX14_reach : List (Nat ⊕ (Nat × Nat)) := [.inl 0, .inr (0, 7), .inr (0, 17), .inr (0, 18), .inr (0, 19), .inr (0, 20), .inr (0, 21), .inr (0, 22), .inr (0, 23), .inr (0, 26), .inr (0, 27), .inr (0, 28), .inr (0, 31), .inr (0, 32), .inr (0, 33), .inr (0, 34), .inr (0, 36), .inr (0, 37), .inr (0, 38), .inr (0, 39), .inr (0, 40), .inr (0, 41), .inr (0, 43), .inr (0, 44), .inr (0, 45), .inr (0, 46), .inr (0, 47), .inr (0, 48), .inr (0, 50), .inr (0, 51), .inr (0, 52), .inr (0, 4), .inr (31, 0), .inr (31, 1), .inr (31, 2), .inr (31, 3), .inr (31, 8), .inr (31, 9), .inr (31, 10), .inr (31, 11), .inr (31, 12), .inr (31, 13), .inr (31, 14), .inr (31, 15), .inr (31, 16), .inr (31, 17), .inr (31, 18), .inr (31, 19), .inr (31, 20), .inr (31, 21), .inr (31, 22), .inr (31, 23), .inr (31, 24), .inr (31, 25), .inr (31, 26), .inr (31, 27), .inr (31, 28)]
def spX14_reach : q_P := fun a w K => ∃ (th : Int32) (tr : Int32) (wh : Int32) (fa : Int32) (ta : Nat) (sz : Int32) (ix : Int32) (so : Int32) (pl : Int32) (nu : Int32) (wd : Int64) (td : Int32) (mk : Int32) (mo : Int32) (tx : Nat → Int32) (P : PT) (D : DT) (ea : Nat → Int32) (pa : Nat → Int32) (co : Nat → Int32) (S : ST) (Cc : CT) (V : VT) (ba : Nat → Int32) (B : BT) (R : RT) (L : LT) (G : GT) (n : Nat) (p d : Int32), w = (modelW 0 (tk 0 5) (tk 0 6) th tr wh fa ta sz ix so pl nu wd td mk mo tx P D ea pa co S Cc V ba B R L G) ∧ a = [.ref 0, .int p, .int d] ∧ pOk P ∧ pPl P n ∧ rOk R ∧ rEnd R n ∧ L_n L ≤ 24 ∧ B.1 0 = nI n ∧ n ≤ 8 ∧ (if pdyR P p d = 0 then K (.inl (some (.int (nI (rcN (payF P L R p.toNatClampNeg (P.1 p.toNatClampNeg).toNatClampNeg mk mo d co) n))))) (modelW 0 (tk 0 5) (tk 0 6) (0) (0) (-1) fa ta sz ix so pl nu wd td mk mo tx P D ea pa (payF P L R p.toNatClampNeg (P.1 p.toNatClampNeg).toNatClampNeg mk mo d co) S Cc V ba B R L G) else K (.inl (some (.int (-1)))) (modelW 0 (tk 0 5) (tk 0 6) (0) (pdyR P p d) (-1) fa ta sz ix so pl nu wd td mk mo tx P D ea pa co S Cc V ba B R L G))
abbrev csX14_reach : q_S := (3, 14, 6, 3, 0, 0, fdX14_reach, spX14_reach)
theorem coX14_462 (l : Launch) : q_CO l RX14 462 csX14_reached := ⟨yX14_reached, cX14_reached, (some .int), 2, ⟨by decide +kernel, by decide +kernel, by decide +kernel⟩, q_G_i 17 (by decide +kernel) rfl, Or.inl ⟨by decide, rfl, rfl, q_G_i 1811 (by decide +kernel) rfl, q_G_i 1813 (by decide +kernel) rfl, q_G_s (n := 53) 82 (by decide +kernel), Or.inl ⟨q_G_i 1814 (by decide +kernel) rfl, ctX14_reached l⟩⟩⟩
def EX14_reach : q_E := (tX14_reach, [], 3, flX14, [(417, csX14_isPerson), (365, csX14_refused), (411, csX14_isDay), (462, csX14_reached), (397, csX14_done)], [], [], [], [], [], 6, 0, 0, (some .int), [], [], 0, 0)
theorem okX14_reach (l : Launch) : q_Eok l RX14 cX14_reach EX14_reach := ⟨tX14_reach_ok, flX14_ok, List.forall_mem_cons.mpr ⟨(coX14_417 l), List.forall_mem_cons.mpr ⟨(coX14_365 l), List.forall_mem_cons.mpr ⟨(coX14_411 l), List.forall_mem_cons.mpr ⟨(coX14_462 l), List.forall_mem_cons.mpr ⟨(coX14_397 l), q_nil⟩⟩⟩⟩⟩, q_nil, q_nil, q_nil, q_nil, q_nil, (fun h => absurd h (by decide))⟩
set_option maxRecDepth 100000 in
set_option maxHeartbeats 4000000 in
theorem ctX14_reach (l : Launch) : q_CT l yX14_reach (.code yX14_reach cX14_reach 3 (some .int)) 6 0 0 spX14_reach := by
  refine q_ct_of EX14_reach (by decide +kernel) (okX14_reach l) rfl rfl rfl rfl rfl q_nil (fun ci h => by cases h) rfl ?_
  intro a w K h
  obtain ⟨th, tr, wh, fa, ta, sz, ix, so, pl, nu, wd, td, mk, mo, tx, P, D, ea, pa, co, S, Cc, V, ba, B, R, L, G, n, p, d, rfl, rfl, ho, hpl, hro, hre, hL, hB, hn, hK⟩ := h
  refine ⟨Nat.le_of_ble_eq_true rfl, fun C hC => hC _ _ _ _ _ _ ?_⟩
  refine ⟨_, _, _, _, _, _, _, _, _, _, _, _, _, _, _, _, _, _, _, _, _, _, _, p, rfl, rfl, And.intro (fun c => ?_) (fun c => ?_)⟩
  · have c : perB P p = true := bI_n0.mp c
    have e : pdyR P p d = if dayB d then 0 else 2 := if_pos c
    refine ⟨d, rfl, rfl, And.intro (fun c3 => ?_) (fun c3 => ?_)⟩
    · rw [if_neg (by rw [bI_0.mp c3]; decide)] at e
      rw [e] at hK
      exact ⟨_, _, _, _, _, _, _, _, _, _, _, _, _, _, _, _, _, _, _, _, _, _, _, _, rfl, rfl, hK⟩
    · rw [if_pos (bI_n0.mp c3)] at e
      rw [if_pos e] at hK
      obtain ⟨p, rfl, hp, hcp⟩ := perI ho c
      obtain ⟨y, hy, hyn⟩ := hpl p hp
      have hcy : (nI y).toNatClampNeg = y := nI_clamp (by omega)
      rw [hcp, hy, hcy] at hK
      exact ⟨_, _, _, _, _, _, _, _, _, _, _, _, _, _, _, _, _, _, _, _, _, _, _, _, _, _, _, _, n, p, y, d, rfl, rfl, ho, hro, hre, hL, hB, hn, hp, hy, by omega, _, _, _, _, _, _, _, _, _, _, _, _, _, _, _, _, _, _, _, _, _, _, _, _, rfl, rfl, hK⟩
  · have c : perB P p = false := bI_0.mp c
    rw [show pdyR P p d = 1 from if_neg (by rw [c]; decide)] at hK
    exact ⟨_, _, _, _, _, _, _, _, _, _, _, _, _, _, _, _, _, _, _, _, _, _, _, _, rfl, rfl, hK⟩
theorem lowE_cg {a b : Nat} {c : Int32} {f g : Nat → Int32} (ha : a < 8) (hb : b < 8) (h : ∀ j, j < 8 → f j = g j) : ∀ j, j < 8 → lowE a b c f j = lowE a b c g j := by
  have hi : ∀ j, j < 8 → (if f a = 1000000 then f else upd f b (mnI (f b) (f a + c))) j = (if g a = 1000000 then g else upd g b (mnI (g b) (g a + c))) j := by
    intro j hj
    rw [h a ha, h b hb]
    split
    · exact h j hj
    · simp only [upd]; split
      · rfl
      · exact h j hj
  intro j hj
  unfold lowE
  generalize (if f a = 1000000 then f else upd f b (mnI (f b) (f a + c))) = F at hi ⊢
  generalize (if g a = 1000000 then g else upd g b (mnI (g b) (g a + c))) = G at hi ⊢
  rw [hi b hb, hi a ha]
  split
  · exact hi j hj
  · simp only [upd]; split
    · rfl
    · exact hi j hj
theorem foldF_cg {R : RT} {n : Nat} {b : Nat → Bool} (hre : rEnd R n) (hn : n ≤ 8) : ∀ (k s : Nat) {f g : Nat → Int32}, s + k ≤ R.2.2.2.2.2.2.2 → (∀ j, j < 8 → f j = g j) → ∀ j, j < 8 → foldF (fun f r => if b r then coinE R f r else f) s k f j = foldF (fun f r => if b r then coinE R f r else f) s k g j
  | 0, s, f, g, _, h, j, hj => h j hj
  | k + 1, s, f, g, hs, h, j, hj => by
    rw [foldF, foldF]
    refine foldF_cg hre hn k (s + 1) (by omega) (fun i hi => ?_) j hj
    obtain ⟨a, c, h1, h2, h3, h4⟩ := hre s (by omega)
    split
    · unfold coinE
      rw [h1, h2, nI_clamp (by omega), nI_clamp (by omega)]
      exact lowE_cg (by omega) (by omega) h i hi
    · exact h i hi
theorem coinR_cg {R : RT} {n : Nat} {b : Nat → Bool} (hre : rEnd R n) (hn : n ≤ 8) : ∀ (k : Nat) {f g : Nat → Int32}, (∀ j, j < 8 → f j = g j) → ∀ j, j < 8 → coinR R b k f j = coinR R b k g j
  | 0, f, g, h, j, hj => h j hj
  | k + 1, f, g, h, j, hj => by
    rw [coinR, coinR]
    exact coinR_cg hre hn k (foldF_cg hre hn _ 0 (by omega) h) j hj
theorem rcN_cg {f g : Nat → Int32} : ∀ n, (∀ j, j < n → f j = g j) → rcN f n = rcN g n
  | 0, _ => rfl
  | n + 1, h => by rw [rcN, rcN, rcN_cg n (fun j hj => h j (by omega)), h n (by omega)]
/-- how many places are reached does not hang on what stood in the row -/
theorem rcN_pay {P : PT} {L : LT} {R : RT} {p n x : Nat} {mk mo d : Int32} {co co' : Nat → Int32} (hre : rEnd R n) (hn : n ≤ 8) : rcN (payF P L R p x mk mo d co) n = rcN (payF P L R p x mk mo d co') n :=
  rcN_cg n (fun j hj => coinR_cg hre hn 8 (fun i hi => by simp only [upd, zf, if_pos hi]) j (by omega))
def tX14_opener : List q_I := [(0, .aload_n 0, 1, 0, 0), (1, .iconst 0, 1, 0, 0), (2, .putfield 123, 3, 0, 0), (5, .aload_n 0, 1, 0, 0), (6, .iload_n 1, 1, 0, 0), (7, .invokevirtual 417, 3, 0, 0), (10, .ifCond .ne 9, 3, 0, 19), (13, .aload_n 0, 1, 0, 0), (14, .iconst 1, 1, 1, 0), (15, .invokevirtual 365, 3, 0, 0), (18, .ireturn, 1, 0, 0), (19, .iload_n 2, 1, 0, 0), (20, .invokestatic 411, 3, 0, 0), (23, .ifCond .ne 9, 3, 0, 32), (26, .aload_n 0, 1, 0, 0), (27, .iconst 2, 1, 2, 0), (28, .invokevirtual 365, 3, 0, 0), (31, .ireturn, 1, 0, 0), (32, .aload_n 0, 1, 0, 0), (33, .iload_n 1, 1, 0, 0), (34, .iload_n 2, 1, 0, 0), (35, .invokevirtual 462, 3, 0, 0), (38, .istore_n 3, 1, 0, 0), (39, .bipush (-2), 2, (-2), 0), (41, .istore 4, 2, 0, 0), (43, .iconst 0, 1, 0, 0), (44, .istore 5, 2, 0, 0), (46, .iload 5, 2, 0, 0), (48, .aload_n 0, 1, 0, 0), (49, .getfield 379, 3, 0, 0), (52, .getfield 246, 3, 0, 0), (55, .iconst 3, 1, 3, 0), (56, .iaload, 1, 0, 0), (57, .if_icmp .ge 74, 3, 0, 131), (60, .iconst 0, 1, 0, 0), (61, .istore 6, 2, 0, 0), (63, .iload 6, 2, 0, 0), (65, .aload_n 0, 1, 0, 0), (66, .getfield 379, 3, 0, 0), (69, .getfield 246, 3, 0, 0), (72, .iconst 2, 1, 2, 0), (73, .iaload, 1, 0, 0), (74, .if_icmp .ge 51, 3, 0, 125), (77, .aload_n 0, 1, 0, 0), (78, .iload 5, 2, 0, 0), (80, .putfield 47, 3, 0, 0), (83, .aload_n 0, 1, 0, 0), (84, .iload 6, 2, 0, 0), (86, .putfield 50, 3, 0, 0), (89, .aload_n 0, 1, 0, 0), (90, .iload_n 1, 1, 0, 0), (91, .iload_n 2, 1, 0, 0), (92, .invokevirtual 462, 3, 0, 0), (95, .istore 7, 2, 0, 0), (97, .iload 7, 2, 0, 0), (99, .iload_n 3, 1, 0, 0), (100, .if_icmp .gt 6, 3, 0, 106), (103, .goto 16, 3, 0, 119), (106, .iload 7, 2, 0, 0), (108, .istore_n 3, 1, 0, 0), (109, .bipush 8, 2, 8, 0), (111, .iload 5, 2, 0, 0), (113, .imul, 1, 0, 0), (114, .iload 6, 2, 0, 0), (116, .iadd, 1, 0, 0), (117, .istore 4, 2, 0, 0), (119, .iinc 6 1, 3, 1, 0), (122, .goto (-59), 3, 0, 63), (125, .iinc 5 1, 3, 1, 0), (128, .goto (-82), 3, 0, 46), (131, .aload_n 0, 1, 0, 0), (132, .iconst (-1), 1, (-1), 0), (133, .putfield 47, 3, 0, 0), (136, .aload_n 0, 1, 0, 0), (137, .iconst (-1), 1, (-1), 0), (138, .putfield 50, 3, 0, 0), (141, .aload_n 0, 1, 0, 0), (142, .iload 4, 2, 0, 0), (144, .invokevirtual 397, 3, 0, 0), (147, .ireturn, 1, 0, 0)]
theorem tX14_opener_ok : (tX14_opener.all (q_okI cX14_opener)) = true := by decide +kernel

abbrev fdX14_opener : List (Nat ⊕ (Nat × Nat)) := [.inl 0, .inr (0, 7), .inr (0, 17), .inr (0, 18), .inr (0, 19), .inr (0, 20), .inr (0, 21), .inr (0, 22), .inr (0, 23), .inr (0, 26), .inr (0, 27), .inr (0, 28), .inr (0, 31), .inr (0, 32), .inr (0, 33), .inr (0, 34), .inr (0, 36), .inr (0, 37), .inr (0, 38), .inr (0, 39), .inr (0, 40), .inr (0, 41), .inr (0, 43), .inr (0, 44), .inr (0, 45), .inr (0, 46), .inr (0, 47), .inr (0, 48), .inr (0, 50), .inr (0, 51), .inr (0, 52), .inr (0, 4), .inr (31, 0), .inr (31, 1), .inr (31, 2), .inr (31, 3), .inr (31, 8), .inr (31, 9), .inr (31, 10), .inr (31, 11), .inr (31, 12), .inr (31, 13), .inr (31, 14), .inr (31, 15), .inr (31, 16), .inr (31, 17), .inr (31, 18), .inr (31, 19), .inr (31, 20), .inr (31, 21), .inr (31, 22), .inr (31, 23), .inr (31, 24), .inr (31, 25), .inr (31, 26), .inr (31, 27), .inr (31, 28)]
def spX14_opener : q_P := fun a w K => ∃ (th : Int32) (tr : Int32) (wh : Int32) (fa : Int32) (ta : Nat) (sz : Int32) (ix : Int32) (so : Int32) (pl : Int32) (nu : Int32) (wd : Int64) (td : Int32) (mk : Int32) (mo : Int32) (tx : Nat → Int32) (P : PT) (D : DT) (ea : Nat → Int32) (pa : Nat → Int32) (co : Nat → Int32) (S : ST) (Cc : CT) (V : VT) (ba : Nat → Int32) (B : BT) (R : RT) (L : LT) (G : GT) (n nk no : Nat) (p d : Int32), w = (modelW 0 (tk 0 5) (tk 0 6) th tr wh fa ta sz ix so pl nu wd td mk mo tx P D ea pa co S Cc V ba B R L G) ∧ a = [.ref 0, .int p, .int d] ∧ pOk P ∧ pPl P n ∧ rOk R ∧ rEnd R n ∧ L_n L ≤ 24 ∧ B.1 0 = nI n ∧ n ≤ 8 ∧ B.1 3 = nI nk ∧ nk ≤ 8 ∧ B.1 2 = nI no ∧ no ≤ 8 ∧ (if pdyR P p d = 0 then ∀ co', K (.inl (some (.int (boF (fun k o => nI (rcN (payF P L R p.toNatClampNeg (P.1 p.toNatClampNeg).toNatClampNeg (nI k) (nI o) d (fun _ => 0)) n)) nk no (nI (rcN (payF P L R p.toNatClampNeg (P.1 p.toNatClampNeg).toNatClampNeg mk mo d (fun _ => 0)) n)))))) (modelW 0 (tk 0 5) (tk 0 6) (0) (0) (-1) fa ta sz ix so pl nu wd td (-1) (-1) tx P D ea pa (co') S Cc V ba B R L G) else K (.inl (some (.int (-1)))) (modelW 0 (tk 0 5) (tk 0 6) (0) (pdyR P p d) (-1) fa ta sz ix so pl nu wd td mk mo tx P D ea pa co S Cc V ba B R L G))
abbrev csX14_opener : q_S := (3, 14, 6, 8, 0, 0, fdX14_opener, spX14_opener)
def EX14_opener : q_E := (tX14_opener, [(46, [0, 1, 2, 3, 4, 5]), (63, [0, 1, 2, 3, 4, 5, 6])], 8, flX14, [(417, csX14_isPerson), (365, csX14_refused), (411, csX14_isDay), (462, csX14_reached), (397, csX14_done)], [], [], [], [], [], 6, 0, 0, (some .int), [], [], 0, 0)
theorem okX14_opener (l : Launch) : q_Eok l RX14 cX14_opener EX14_opener := ⟨tX14_opener_ok, flX14_ok, List.forall_mem_cons.mpr ⟨(coX14_417 l), List.forall_mem_cons.mpr ⟨(coX14_365 l), List.forall_mem_cons.mpr ⟨(coX14_411 l), List.forall_mem_cons.mpr ⟨(coX14_462 l), List.forall_mem_cons.mpr ⟨(coX14_397 l), q_nil⟩⟩⟩⟩⟩, q_nil, q_nil, q_nil, q_nil, q_nil, (fun h => absurd h (by decide))⟩
set_option maxRecDepth 100000 in
set_option maxHeartbeats 4000000 in
theorem ctX14_opener (l : Launch) : q_CT l yX14_opener (.code yX14_opener cX14_opener 8 (some .int)) 6 0 0 spX14_opener := by
  refine q_ct_of EX14_opener (by decide +kernel) (okX14_opener l) rfl rfl rfl rfl rfl q_nil (fun ci h => by cases h) rfl ?_
  intro a w K h
  obtain ⟨th, tr, wh, fa, ta, sz, ix, so, pl, nu, wd, td, mk, mo, tx, P, D, ea, pa, co, S, Cc, V, ba, B, R, L, G, n, nk, no, p, d, rfl, rfl, ho, hpl, hro, hre, hL, hB, hn, hB3, hn3, hB2, hn2, hK⟩ := h
  have h3 : vp_in (3 : Int32) 4 := vp_in_nI (n := 3) (by decide) (by decide)
  have h2 : vp_in (2 : Int32) 4 := vp_in_nI (n := 2) (by decide) (by decide)
  refine ⟨Nat.le_of_ble_eq_true rfl, fun C hC => hC _ _ _ _ _ _ ?_⟩
  refine ⟨_, _, _, _, _, _, _, _, _, _, _, _, _, _, _, _, _, _, _, _, _, _, _, p, rfl, rfl, And.intro (fun c => ?_) (fun c => ?_)⟩
  · have c : perB P p = true := bI_n0.mp c
    have e : pdyR P p d = if dayB d then 0 else 2 := if_pos c
    refine ⟨d, rfl, rfl, And.intro (fun c3 => ?_) (fun c3 => ?_)⟩
    · rw [if_pos (bI_n0.mp c3)] at e
      rw [if_pos e] at hK
      obtain ⟨p, rfl, hp, hcp⟩ := perI ho c
      obtain ⟨y, hy, hyn⟩ := hpl p hp
      have hcy : (nI y).toNatClampNeg = y := nI_clamp (by omega)
      rw [hcp, hy, hcy] at hK
      refine ⟨_, _, _, _, _, _, _, _, _, _, _, _, _, _, _, _, _, _, _, _, _, _, _, _, _, _, _, _, n, p, y, d, rfl, rfl, ho, hro, hre, hL, hB, hn, hp, hy, by omega, ?_⟩
      have outer : ∀ k i (s : Int32 × Int32) co mk mo, i + k = nk → (∀ co', K (.inl (some (.int (foldF (fun s k => foldF (boOne (fun k o => nI (rcN (payF P L R p y (nI k) (nI o) d (fun _ => 0)) n)) k) 0 no s) i k s).2))) (modelW 0 (tk 0 5) (tk 0 6) (0) (0) (-1) fa ta sz ix so pl nu wd td (-1) (-1) tx P D ea pa (co') S Cc V ba B R L G)) → C 46 [(0, .ref 0), (1, .int (nI p)), (2, .int d), (3, .int s.1), (4, .int s.2), (5, .int (nI i))] [] (modelW 0 (tk 0 5) (tk 0 6) (0) tr wh fa ta sz ix so pl nu wd td (mk) (mo) tx P D ea pa (co) S Cc V ba B R L G) 0 0 := by
        intro k
        induction k with
        | zero =>
          intro i s co mk mo hi hK
          exact hC _ _ _ _ _ _ ⟨h3, And.intro (fun c => ⟨_, _, _, _, _, _, _, _, _, _, _, _, _, _, _, _, _, _, _, _, _, _, _, _, rfl, rfl, hK co⟩) (fun c => absurd (show B.1 3 ≤ nI i by rw [hB3]; exact nI_le (by omega) (by omega)) c)⟩
        | succ k ih =>
          intro i s co mk mo hi hK
          rw [foldF] at hK
          have inner : ∀ m j (s : Int32 × Int32) co mk mo, j + m = no → (∀ co', K (.inl (some (.int (foldF (fun s k => foldF (boOne (fun k o => nI (rcN (payF P L R p y (nI k) (nI o) d (fun _ => 0)) n)) k) 0 no s) (i + 1) k (foldF (boOne (fun k o => nI (rcN (payF P L R p y (nI k) (nI o) d (fun _ => 0)) n)) i) j m s)).2))) (modelW 0 (tk 0 5) (tk 0 6) (0) (0) (-1) fa ta sz ix so pl nu wd td (-1) (-1) tx P D ea pa (co') S Cc V ba B R L G)) → C 63 [(0, .ref 0), (1, .int (nI p)), (2, .int d), (3, .int s.1), (4, .int s.2), (5, .int (nI i)), (6, .int (nI j))] [] (modelW 0 (tk 0 5) (tk 0 6) (0) tr wh fa ta sz ix so pl nu wd td (mk) (mo) tx P D ea pa (co) S Cc V ba B R L G) 0 0 := by
            intro m
            induction m with
            | zero =>
              intro j s co mk mo hj hK
              have h9 := ih (i + 1) s co mk mo (by omega) hK
              rw [← nI_1] at h9
              exact hC _ _ _ _ _ _ ⟨h2, And.intro (fun c => h9) (fun c => absurd (show B.1 2 ≤ nI j by rw [hB2]; exact nI_le (by omega) (by omega)) c)⟩
            | succ m ih2 =>
              intro j s co mk mo hj hK
              rw [foldF, boOne, rcN_pay (co' := co) hre hn] at hK
              refine hC _ _ _ _ _ _ ⟨h2, And.intro (fun c => absurd (show B.1 2 ≤ nI j from c) (by rw [hB2]; exact nI_ge (by omega) (by omega))) (fun c => ⟨_, _, _, _, _, _, _, _, _, _, _, _, _, _, _, _, _, _, _, _, _, _, _, _, _, _, _, _, n, p, y, d, rfl, rfl, ho, hro, hre, hL, hB, hn, hp, hy, by omega, And.intro (fun c4 => ?_) (fun c4 => ?_)⟩)⟩
              · rw [if_pos c4] at hK
                have h9 := ih2 (j + 1) (_, _) (payF P L R p y (nI i) (nI j) d co) (nI i) (nI j) (by omega) hK
                rw [← nI_1] at h9
                exact h9
              · rw [if_neg c4] at hK
                have h9 := ih2 (j + 1) s (payF P L R p y (nI i) (nI j) d co) (nI i) (nI j) (by omega) hK
                rw [← nI_1] at h9
                exact h9
          exact hC _ _ _ _ _ _ ⟨h3, And.intro (fun c => absurd (show B.1 3 ≤ nI i from c) (by rw [hB3]; exact nI_ge (by omega) (by omega))) (fun c => inner no 0 s co mk mo (by omega) hK)⟩
      rw [rcN_pay (co' := co) hre hn, boF] at hK
      exact outer nk 0 (_, _) (payF P L R p y mk mo d co) mk mo (by omega) hK
    · rw [if_neg (by rw [bI_0.mp c3]; decide)] at e
      rw [e] at hK
      exact ⟨_, _, _, _, _, _, _, _, _, _, _, _, _, _, _, _, _, _, _, _, _, _, _, _, rfl, rfl, hK⟩
  · have c : perB P p = false := bI_0.mp c
    rw [show pdyR P p d = 1 from if_neg (by rw [c]; decide)] at hK
    exact ⟨_, _, _, _, _, _, _, _, _, _, _, _, _, _, _, _, _, _, _, _, _, _, _, _, rfl, rfl, hK⟩
def tX14_stamp : List q_I := [(0, .aload_n 0, 1, 0, 0), (1, .iconst 0, 1, 0, 0), (2, .putfield 123, 3, 0, 0), (5, .aload_n 0, 1, 0, 0), (6, .iconst 3, 1, 3, 0), (7, .iload_n 1, 1, 0, 0), (8, .invokevirtual 407, 3, 0, 0), (11, .ifCond .eq 12, 3, 0, 23), (14, .aload_n 0, 1, 0, 0), (15, .iconst 2, 1, 2, 0), (16, .iload_n 2, 1, 0, 0), (17, .invokevirtual 407, 3, 0, 0), (20, .ifCond .ne 9, 3, 0, 29), (23, .aload_n 0, 1, 0, 0), (24, .iconst 1, 1, 1, 0), (25, .invokevirtual 365, 3, 0, 0), (28, .ireturn, 1, 0, 0), (29, .iload_n 3, 1, 0, 0), (30, .iconst 0, 1, 0, 0), (31, .sipush 999, 3, 999, 0), (34, .invokestatic 207, 3, 0, 0), (37, .ifCond .ne 9, 3, 0, 46), (40, .aload_n 0, 1, 0, 0), (41, .iconst 2, 1, 2, 0), (42, .invokevirtual 365, 3, 0, 0), (45, .ireturn, 1, 0, 0), (46, .aload_n 0, 1, 0, 0), (47, .getfield 385, 3, 0, 0), (50, .bipush 9, 2, 9, 0), (52, .if_icmp .ne 9, 3, 0, 61), (55, .aload_n 0, 1, 0, 0), (56, .iconst 3, 1, 3, 0), (57, .invokevirtual 365, 3, 0, 0), (60, .ireturn, 1, 0, 0), (61, .aload_n 0, 1, 0, 0), (62, .getfield 66, 3, 0, 0), (65, .aload_n 0, 1, 0, 0), (66, .getfield 385, 3, 0, 0), (69, .iload_n 1, 1, 0, 0), (70, .iastore, 1, 0, 0), (71, .aload_n 0, 1, 0, 0), (72, .getfield 69, 3, 0, 0), (75, .aload_n 0, 1, 0, 0), (76, .getfield 385, 3, 0, 0), (79, .iload_n 2, 1, 0, 0), (80, .iastore, 1, 0, 0), (81, .aload_n 0, 1, 0, 0), (82, .getfield 72, 3, 0, 0), (85, .aload_n 0, 1, 0, 0), (86, .getfield 385, 3, 0, 0), (89, .iload_n 3, 1, 0, 0), (90, .iastore, 1, 0, 0), (91, .aload_n 0, 1, 0, 0), (92, .dup, 1, 0, 0), (93, .getfield 385, 3, 0, 0), (96, .iconst 1, 1, 1, 0), (97, .iadd, 1, 0, 0), (98, .putfield 385, 3, 0, 0), (101, .aload_n 0, 1, 0, 0), (102, .aload_n 0, 1, 0, 0), (103, .getfield 385, 3, 0, 0), (106, .iconst 1, 1, 1, 0), (107, .isub, 1, 0, 0), (108, .invokevirtual 397, 3, 0, 0), (111, .ireturn, 1, 0, 0)]
theorem tX14_stamp_ok : (tX14_stamp.all (q_okI cX14_stamp)) = true := by decide +kernel

abbrev fdX14_stamp : List (Nat ⊕ (Nat × Nat)) := [.inl 0, .inr (0, 7), .inr (0, 17), .inr (0, 18), .inr (0, 19), .inr (0, 20), .inr (0, 21), .inr (0, 22), .inr (0, 23), .inr (0, 26), .inr (0, 27), .inr (0, 28), .inr (0, 31), .inr (0, 32), .inr (0, 33), .inr (0, 34), .inr (0, 36), .inr (0, 37), .inr (0, 38), .inr (0, 39), .inr (0, 40), .inr (0, 41), .inr (0, 43), .inr (0, 44), .inr (0, 45), .inr (0, 46), .inr (0, 47), .inr (0, 48), .inr (0, 50), .inr (0, 51), .inr (0, 52), .inr (0, 4), .inr (31, 0), .inr (31, 1), .inr (31, 2), .inr (31, 3), .inr (31, 8), .inr (31, 9), .inr (31, 10), .inr (31, 11), .inr (31, 12), .inr (31, 13), .inr (31, 14), .inr (31, 15), .inr (31, 16), .inr (31, 17), .inr (31, 18), .inr (31, 19), .inr (31, 20), .inr (31, 21), .inr (31, 22), .inr (31, 23), .inr (31, 24), .inr (31, 25), .inr (31, 26), .inr (31, 27), .inr (31, 28)]
def spX14_stamp : q_P := fun a w K => ∃ (th : Int32) (tr : Int32) (wh : Int32) (fa : Int32) (ta : Nat) (sz : Int32) (ix : Int32) (so : Int32) (pl : Int32) (nu : Int32) (wd : Int64) (td : Int32) (mk : Int32) (mo : Int32) (tx : Nat → Int32) (P : PT) (D : DT) (ea : Nat → Int32) (pa : Nat → Int32) (co : Nat → Int32) (S : ST) (Cc : CT) (V : VT) (ba : Nat → Int32) (B : BT) (R : RT) (L : LT) (G : GT) (k o x : Int32), w = (modelW 0 (tk 0 5) (tk 0 6) th tr wh fa ta sz ix so pl nu wd td mk mo tx P D ea pa co S Cc V ba B R L G) ∧ a = [.ref 0, .int k, .int o, .int x] ∧ S.2.2.2.2.2.1 ≤ 9 ∧ (if sortB B.1 k o = true then (if x < 0 ∨ 999 < x then K (.inl (some (.int (-1)))) (modelW 0 (tk 0 5) (tk 0 6) (0) (2) (-1) fa ta sz ix so pl nu wd td mk mo tx P D ea pa co S Cc V ba B R L G) else (if S.2.2.2.2.2.1 < 9 then K (.inl (some (.int (nI S.2.2.2.2.2.1)))) (modelW 0 (tk 0 5) (tk 0 6) (0) (0) (-1) fa ta sz ix so pl nu wd td mk mo tx P D ea pa co (loadAdd S k o x) Cc V ba B R L G) else K (.inl (some (.int (-1)))) (modelW 0 (tk 0 5) (tk 0 6) (0) (3) (-1) fa ta sz ix so pl nu wd td mk mo tx P D ea pa co S Cc V ba B R L G))) else K (.inl (some (.int (-1)))) (modelW 0 (tk 0 5) (tk 0 6) (0) (1) (-1) fa ta sz ix so pl nu wd td mk mo tx P D ea pa co S Cc V ba B R L G))
abbrev csX14_stamp : q_S := (4, 14, 1, 4, 0, 0, fdX14_stamp, spX14_stamp)
def EX14_stamp : q_E := (tX14_stamp, [], 4, flX14, [(407, csX14_isOf), (365, csX14_refused), (207, csX14_in), (397, csX14_done)], [], [], [], [], [], 1, 0, 0, (some .int), [], [], 0, 0)
theorem okX14_stamp (l : Launch) : q_Eok l RX14 cX14_stamp EX14_stamp := ⟨tX14_stamp_ok, flX14_ok, List.forall_mem_cons.mpr ⟨(coX14_407 l), List.forall_mem_cons.mpr ⟨(coX14_365 l), List.forall_mem_cons.mpr ⟨(coX14_207 l), List.forall_mem_cons.mpr ⟨(coX14_397 l), q_nil⟩⟩⟩⟩, q_nil, q_nil, q_nil, q_nil, q_nil, (fun h => absurd h (by decide))⟩
set_option maxRecDepth 100000 in
set_option maxHeartbeats 4000000 in
theorem ctX14_stamp (l : Launch) : q_CT l yX14_stamp (.code yX14_stamp cX14_stamp 4 (some .int)) 1 0 0 spX14_stamp := by
  refine q_ct_of EX14_stamp (by decide +kernel) (okX14_stamp l) rfl rfl rfl rfl rfl q_nil (fun ci h => by cases h) rfl ?_
  intro a w K h
  obtain ⟨th, tr, wh, fa, ta, sz, ix, so, pl, nu, wd, td, mk, mo, tx, P, D, ea, pa, co, S, Cc, V, ba, B, R, L, G, k, o, x, rfl, rfl, hS, hK⟩ := h
  refine ⟨Nat.le_of_ble_eq_true rfl, fun C hC => hC _ _ _ _ _ _ ?_⟩
  rw [sortB] at hK
  refine ⟨_, _, _, _, _, _, _, _, _, _, _, _, _, _, _, _, _, _, _, _, _, _, _, _, 3, k, rfl, rfl, by decide, And.intro (fun c1 => ?_) (fun c1 => ?_)⟩
  · rw [bI_0.mp c1] at hK
    exact ⟨_, _, _, _, _, _, _, _, _, _, _, _, _, _, _, _, _, _, _, _, _, _, _, _, rfl, rfl, hK⟩
  rw [bI_n0.mp c1, Bool.true_and] at hK
  refine ⟨_, _, _, _, _, _, _, _, _, _, _, _, _, _, _, _, _, _, _, _, _, _, _, _, 2, o, rfl, rfl, by decide, And.intro (fun c2 => ?_) (fun c2 => ?_)⟩
  · rw [if_pos (bI_n0.mp c2)] at hK
    refine ⟨x, 0, 999, rfl, rfl, And.intro (fun c => ?_) (fun c => ?_)⟩
    · have c := of_decide_eq_true (bI_n0.mp c)
      rw [if_neg (fun z => z.elim (Int32.not_lt.mpr c.1) (Int32.not_lt.mpr c.2))] at hK
      refine And.intro (fun c4 => ?_) (fun c4 => ?_)
      · have h9 : S.2.2.2.2.2.1 < 9 := by
          rcases Nat.lt_or_ge S.2.2.2.2.2.1 9 with z | z
          · exact z
          · exact absurd (show nI S.2.2.2.2.2.1 = nI 9 by rw [Nat.le_antisymm hS z]) c4
        rw [if_pos h9] at hK
        have hv : vp_in (nI S.2.2.2.2.2.1) 9 := vp_in_nI h9 (by omega)
        have hc : (nI S.2.2.2.2.2.1).toNatClampNeg = S.2.2.2.2.2.1 := nI_clamp (by omega)
        have hK : K (.inl (some (.int (nI S.2.2.2.2.2.1 + 1 - 1)))) (modelW 0 (tk 0 5) (tk 0 6) (0) (0) (-1) fa ta sz ix so pl nu wd td mk mo tx P D ea pa co (loadAdd S k o x) Cc V ba B R L G) := by rw [nI_1, nI_pred]; exact hK
        refine ⟨hv, hv, hv, _, _, _, _, _, _, _, _, _, _, _, _, _, _, _, _, _, _, _, _, _, _, _, _, rfl, rfl, ?_⟩
        rw [hc, nI_1]
        rw [nI_1] at hK
        exact hK
      · rw [if_neg (c := S.2.2.2.2.2.1 < 9) (fun z => nI_ne (b := 9) (by omega) (by omega) (by omega) c4)] at hK
        exact ⟨_, _, _, _, _, _, _, _, _, _, _, _, _, _, _, _, _, _, _, _, _, _, _, _, rfl, rfl, hK⟩
    · have c := of_decide_eq_false (bI_0.mp c)
      rw [if_pos (by
        rcases Int32.lt_or_le x 0 with z | z
        · exact Or.inl z
        · rcases Int32.lt_or_le 999 x with y | y
          · exact Or.inr y
          · exact absurd ⟨z, y⟩ c)] at hK
      exact ⟨_, _, _, _, _, _, _, _, _, _, _, _, _, _, _, _, _, _, _, _, _, _, _, _, rfl, rfl, hK⟩
  · rw [bI_0.mp c2] at hK
    exact ⟨_, _, _, _, _, _, _, _, _, _, _, _, _, _, _, _, _, _, _, _, _, _, _, _, rfl, rfl, hK⟩
