
def tX14_least : List q_I := [(0, .aload_n 0, 1, 0, 0), (1, .iconst 0, 1, 0, 0), (2, .putfield 123, 3, 0, 0), (5, .aload_n 0, 1, 0, 0), (6, .iconst 0, 1, 0, 0), (7, .iload_n 1, 1, 0, 0), (8, .invokevirtual 407, 3, 0, 0), (11, .ifCond .eq 12, 3, 0, 23), (14, .aload_n 0, 1, 0, 0), (15, .iconst 0, 1, 0, 0), (16, .iload_n 2, 1, 0, 0), (17, .invokevirtual 407, 3, 0, 0), (20, .ifCond .ne 9, 3, 0, 29), (23, .aload_n 0, 1, 0, 0), (24, .iconst 1, 1, 1, 0), (25, .invokevirtual 365, 3, 0, 0), (28, .ireturn, 1, 0, 0), (29, .iload_n 3, 1, 0, 0), (30, .invokestatic 411, 3, 0, 0), (33, .ifCond .ne 9, 3, 0, 42), (36, .aload_n 0, 1, 0, 0), (37, .iconst 2, 1, 2, 0), (38, .invokevirtual 365, 3, 0, 0), (41, .ireturn, 1, 0, 0), (42, .iconst 0, 1, 0, 0), (43, .istore 4, 2, 0, 0), (45, .iload 4, 2, 0, 0), (47, .aload_n 0, 1, 0, 0), (48, .getfield 379, 3, 0, 0), (51, .getfield 255, 3, 0, 0), (54, .if_icmp .ge 55, 3, 0, 109), (57, .iconst 3, 1, 3, 0), (58, .iload 4, 2, 0, 0), (60, .imul, 1, 0, 0), (61, .istore 5, 2, 0, 0), (63, .iload 5, 2, 0, 0), (65, .iconst 3, 1, 3, 0), (66, .iload 4, 2, 0, 0), (68, .imul, 1, 0, 0), (69, .aload_n 0, 1, 0, 0), (70, .getfield 379, 3, 0, 0), (73, .getfield 283, 3, 0, 0), (76, .iload 4, 2, 0, 0), (78, .iaload, 1, 0, 0), (79, .iadd, 1, 0, 0), (80, .if_icmp .ge 23, 3, 0, 103), (83, .aload_n 0, 1, 0, 0), (84, .getfield 75, 3, 0, 0), (87, .iload 5, 2, 0, 0), (89, .aload_n 0, 1, 0, 0), (90, .iload 5, 2, 0, 0), (92, .iload_n 3, 1, 0, 0), (93, .invokevirtual 465, 3, 0, 0), (96, .iastore, 1, 0, 0), (97, .iinc 5 1, 3, 1, 0), (100, .goto (-37), 3, 0, 63), (103, .iinc 4 1, 3, 1, 0), (106, .goto (-61), 3, 0, 45), (109, .iconst (-1), 1, (-1), 0), (110, .istore 4, 2, 0, 0), (112, .iconst 0, 1, 0, 0), (113, .istore 5, 2, 0, 0), (115, .iconst 0, 1, 0, 0), (116, .istore 6, 2, 0, 0), (118, .iload 6, 2, 0, 0), (120, .iconst 1, 1, 1, 0), (121, .aload_n 0, 1, 0, 0), (122, .getfield 385, 3, 0, 0), (125, .ishl, 1, 0, 0), (126, .if_icmp .ge 124, 3, 0, 250), (129, .iconst 0, 1, 0, 0), (130, .istore 7, 2, 0, 0), (132, .iconst 0, 1, 0, 0), (133, .istore 8, 2, 0, 0), (135, .iload 8, 2, 0, 0), (137, .aload_n 0, 1, 0, 0), (138, .getfield 385, 3, 0, 0), (141, .if_icmp .ge 36, 3, 0, 177), (144, .iload 7, 2, 0, 0), (146, .iload 6, 2, 0, 0), (148, .iload 8, 2, 0, 0), (150, .ishr, 1, 0, 0), (151, .iconst 1, 1, 1, 0), (152, .iand, 1, 0, 0), (153, .iconst 1, 1, 1, 0), (154, .if_icmp .ne 13, 3, 0, 167), (157, .aload_n 0, 1, 0, 0), (158, .getfield 72, 3, 0, 0), (161, .iload 8, 2, 0, 0), (163, .iaload, 1, 0, 0), (164, .goto 4, 3, 0, 168), (167, .iconst 0, 1, 0, 0), (168, .iadd, 1, 0, 0), (169, .istore 7, 2, 0, 0), (171, .iinc 8 1, 3, 1, 0), (174, .goto (-39), 3, 0, 135), (177, .iload 4, 2, 0, 0), (179, .iconst (-1), 1, (-1), 0), (180, .if_icmp .eq 30, 3, 0, 210), (183, .iload 7, 2, 0, 0), (185, .iload 5, 2, 0, 0), (187, .if_icmp .lt 23, 3, 0, 210), (190, .iload 7, 2, 0, 0), (192, .iload 5, 2, 0, 0), (194, .if_icmp .ne 20, 3, 0, 214), (197, .iload 6, 2, 0, 0), (199, .invokestatic 468, 3, 0, 0), (202, .iload 4, 2, 0, 0), (204, .invokestatic 468, 3, 0, 0), (207, .if_icmp .ge 7, 3, 0, 214), (210, .iconst 1, 1, 1, 0), (211, .goto 4, 3, 0, 215), (214, .iconst 0, 1, 0, 0), (215, .istore 8, 2, 0, 0), (217, .iload 8, 2, 0, 0), (219, .ifCond .eq 25, 3, 0, 244), (222, .aload_n 0, 1, 0, 0), (223, .iload 6, 2, 0, 0), (225, .iload_n 1, 1, 0, 0), (226, .iload_n 2, 1, 0, 0), (227, .invokevirtual 471, 3, 0, 0), (230, .ifCond .ne 6, 3, 0, 236), (233, .goto 11, 3, 0, 244), (236, .iload 6, 2, 0, 0), (238, .istore 4, 2, 0, 0), (240, .iload 7, 2, 0, 0), (242, .istore 5, 2, 0, 0), (244, .iinc 6 1, 3, 1, 0), (247, .goto (-129), 3, 0, 118), (250, .iload 4, 2, 0, 0), (252, .iconst (-1), 1, (-1), 0), (253, .if_icmp .ne 10, 3, 0, 263), (256, .aload_n 0, 1, 0, 0), (257, .bipush 6, 2, 6, 0), (259, .invokevirtual 365, 3, 0, 0), (262, .ireturn, 1, 0, 0), (263, .aload_n 0, 1, 0, 0), (264, .iload 4, 2, 0, 0), (266, .putfield 63, 3, 0, 0), (269, .aload_n 0, 1, 0, 0), (270, .iload 5, 2, 0, 0), (272, .invokevirtual 397, 3, 0, 0), (275, .ireturn, 1, 0, 0)]
theorem tX14_least_ok : (tX14_least.all (q_okI cX14_least)) = true := by decide +kernel

abbrev fdX14_least : List (Nat ⊕ (Nat × Nat)) := [.inl 0, .inr (0, 7), .inr (0, 17), .inr (0, 18), .inr (0, 19), .inr (0, 20), .inr (0, 21), .inr (0, 22), .inr (0, 23), .inr (0, 26), .inr (0, 27), .inr (0, 28), .inr (0, 31), .inr (0, 32), .inr (0, 33), .inr (0, 34), .inr (0, 36), .inr (0, 37), .inr (0, 38), .inr (0, 39), .inr (0, 40), .inr (0, 41), .inr (0, 43), .inr (0, 44), .inr (0, 45), .inr (0, 46), .inr (0, 47), .inr (0, 48), .inr (0, 50), .inr (0, 51), .inr (0, 52), .inr (0, 4), .inr (31, 0), .inr (31, 1), .inr (31, 2), .inr (31, 3), .inr (31, 8), .inr (31, 9), .inr (31, 10), .inr (31, 11), .inr (31, 12), .inr (31, 13), .inr (31, 14), .inr (31, 15), .inr (31, 16), .inr (31, 17), .inr (31, 18), .inr (31, 19), .inr (31, 20), .inr (31, 21), .inr (31, 22), .inr (31, 23), .inr (31, 24), .inr (31, 25), .inr (31, 26), .inr (31, 27), .inr (31, 28)]
def spX14_least : q_P := fun a w K => ∃ (th : Int32) (tr : Int32) (wh : Int32) (fa : Int32) (ta : Nat) (sz : Int32) (ix : Int32) (so : Int32) (pl : Int32) (nu : Int32) (wd : Int64) (td : Int32) (mk : Int32) (mo : Int32) (tx : Nat → Int32) (P : PT) (D : DT) (ea : Nat → Int32) (pa : Nat → Int32) (co : Nat → Int32) (S : ST) (Cc : CT) (V : VT) (ba : Nat → Int32) (B : BT) (R : RT) (L : LT) (G : GT) (x y d : Int32), w = (modelW 0 (tk 0 5) (tk 0 6) th tr wh fa ta sz ix so pl nu wd td mk mo tx P D ea pa co S Cc V ba B R L G) ∧ a = [.ref 0, .int x, .int y, .int d] ∧ rOk R ∧ L_n L ≤ 24 ∧ S.2.2.2.2.2.1 ≤ 9 ∧ (if (toldB B.1 0 x && toldB B.1 0 y) = true then (if dayB d = true then ∀ g, (if (lmF S.2.2.1 S.2.2.2.2.2.1 (fun s => mcarB R (fun k => fitF S L R d k S.2.2.2.2.2.1) s x y)).1 = -1 then K (.inl (some (.int (-1)))) (modelW 0 (tk 0 5) (tk 0 6) (0) (6) (-1) fa ta sz ix so pl nu wd td mk mo tx P D ea pa co (sFit S g) Cc V ba B R L G) else K (.inl (some (.int (lmF S.2.2.1 S.2.2.2.2.2.1 (fun s => mcarB R (fun k => fitF S L R d k S.2.2.2.2.2.1) s x y)).2))) (modelW 0 (tk 0 5) (tk 0 6) (0) (0) (-1) fa ta sz ix so pl nu wd td mk mo tx P D ea pa co (sBgt (sFit S g) (lmF S.2.2.1 S.2.2.2.2.2.1 (fun s => mcarB R (fun k => fitF S L R d k S.2.2.2.2.2.1) s x y)).1) Cc V ba B R L G)) else K (.inl (some (.int (-1)))) (modelW 0 (tk 0 5) (tk 0 6) (0) (2) (-1) fa ta sz ix so pl nu wd td mk mo tx P D ea pa co S Cc V ba B R L G)) else K (.inl (some (.int (-1)))) (modelW 0 (tk 0 5) (tk 0 6) (0) (1) (-1) fa ta sz ix so pl nu wd td mk mo tx P D ea pa co S Cc V ba B R L G))
abbrev csX14_least : q_S := (4, 14, 3, 9, 0, 0, fdX14_least, spX14_least)
theorem coX14_465 (l : Launch) : q_CO l RX14 465 csX14_stampsOf := ⟨yX14_stampsOf, cX14_stampsOf, (some .int), 2, ⟨by decide +kernel, by decide +kernel, by decide +kernel⟩, q_G_i 17 (by decide +kernel) rfl, Or.inl ⟨by decide, rfl, rfl, q_G_i 1827 (by decide +kernel) rfl, q_G_i 1829 (by decide +kernel) rfl, q_G_s (n := 53) 83 (by decide +kernel), Or.inl ⟨q_G_i 1830 (by decide +kernel) rfl, ctX14_stampsOf l⟩⟩⟩
theorem coX14_468 (l : Launch) : q_CO l RX14 468 csX14_bits := ⟨yX14_bits, cX14_bits, (some .int), 1, ⟨by decide +kernel, by decide +kernel, by decide +kernel⟩, q_G_i 17 (by decide +kernel) rfl, Or.inr (Or.inr (Or.inr ⟨rfl, rfl, q_G_i 1831 (by decide +kernel) rfl, q_G_i 1832 (by decide +kernel) rfl, Or.inl ⟨q_G_i 1833 (by decide +kernel) rfl, ctX14_bits l⟩⟩))⟩
theorem coX14_471 (l : Launch) : q_CO l RX14 471 csX14_isCarried := ⟨yX14_isCarried, cX14_isCarried, (some .boolean), 3, ⟨by decide +kernel, by decide +kernel, by decide +kernel⟩, q_G_i 17 (by decide +kernel) rfl, Or.inl ⟨by decide, rfl, rfl, q_G_i 1834 (by decide +kernel) rfl, q_G_i 1836 (by decide +kernel) rfl, q_G_s (n := 53) 84 (by decide +kernel), Or.inl ⟨q_G_i 1837 (by decide +kernel) rfl, ctX14_isCarried l⟩⟩⟩
def EX14_least : q_E := (tX14_least, [(45, [0, 1, 2, 3, 4]), (63, [0, 1, 2, 3, 4, 5]), (118, [0, 1, 2, 4, 5, 6]), (135, [0, 1, 2, 4, 5, 6, 7, 8]), (217, [0, 1, 2, 4, 5, 6, 7, 8])], 9, flX14, [(407, csX14_isOf), (365, csX14_refused), (411, csX14_isDay), (465, csX14_stampsOf), (468, csX14_bits), (471, csX14_isCarried), (397, csX14_done)], [], [], [], [], [], 3, 0, 0, (some .int), [], [], 0, 0)
theorem okX14_least (l : Launch) : q_Eok l RX14 cX14_least EX14_least := ⟨tX14_least_ok, flX14_ok, List.forall_mem_cons.mpr ⟨(coX14_407 l), List.forall_mem_cons.mpr ⟨(coX14_365 l), List.forall_mem_cons.mpr ⟨(coX14_411 l), List.forall_mem_cons.mpr ⟨(coX14_465 l), List.forall_mem_cons.mpr ⟨(coX14_468 l), List.forall_mem_cons.mpr ⟨(coX14_471 l), List.forall_mem_cons.mpr ⟨(coX14_397 l), q_nil⟩⟩⟩⟩⟩⟩⟩, q_nil, q_nil, q_nil, q_nil, q_nil, (fun h => absurd h (by decide))⟩
set_option maxRecDepth 100000 in
set_option maxHeartbeats 4000000 in
theorem ctX14_least (l : Launch) : q_CT l yX14_least (.code yX14_least cX14_least 9 (some .int)) 3 0 0 spX14_least := by
  refine q_ct_of EX14_least (by decide +kernel) (okX14_least l) rfl rfl rfl rfl rfl q_nil (fun ci h => by cases h) rfl ?_
  intro a w K h
  obtain ⟨th, tr, wh, fa, ta, sz, ix, so, pl, nu, wd, td, mk, mo, tx, P, D, ea, pa, co, S, Cc, V, ba, B, R, L, G, x, y, d, rfl, rfl, hro, hL, hS, hK⟩ := h
  have hrn := hro.1
  refine ⟨Nat.le_of_ble_eq_true rfl, fun C hC => hC _ _ _ _ _ _ ?_⟩
  refine ⟨_, _, _, _, _, _, _, _, _, _, _, _, _, _, _, _, _, _, _, _, _, _, _, _, 0, x, rfl, rfl, by decide, And.intro (fun c => ?_) (fun c => ?_)⟩
  · rw [bI_0.mp c] at hK
    exact ⟨_, _, _, _, _, _, _, _, _, _, _, _, _, _, _, _, _, _, _, _, _, _, _, _, rfl, rfl, hK⟩
  rw [bI_n0.mp c, Bool.true_and] at hK
  refine ⟨_, _, _, _, _, _, _, _, _, _, _, _, _, _, _, _, _, _, _, _, _, _, _, _, 0, y, rfl, rfl, by decide, And.intro (fun c2 => ?_) (fun c2 => ?_)⟩
  rotate_left
  · rw [if_neg (by rw [bI_0.mp c2]; decide)] at hK
    exact ⟨_, _, _, _, _, _, _, _, _, _, _, _, _, _, _, _, _, _, _, _, _, _, _, _, rfl, rfl, hK⟩
  rw [if_pos (bI_n0.mp c2)] at hK
  refine ⟨d, rfl, rfl, And.intro (fun c3 => ?_) (fun c3 => ?_)⟩
  rotate_left
  · rw [if_neg (by rw [bI_0.mp c3]; decide)] at hK
    exact ⟨_, _, _, _, _, _, _, _, _, _, _, _, _, _, _, _, _, _, _, _, _, _, _, _, rfl, rfl, hK⟩
  rw [if_pos (bI_n0.mp c3)] at hK
  have h2c : 2 ^ S.2.2.2.2.2.1 ≤ 2 ^ 9 := Nat.pow_le_pow_right (by omega) hS
  have hsh : (1 : Int32) <<< (nI S.2.2.2.2.2.1 &&& 31) = nI (2 ^ S.2.2.2.2.2.1) := shl_n ⟨S.2.2.2.2.2.1, by omega⟩
  have main : ∀ g, fitOk R g (fun k => fitF S L R d k S.2.2.2.2.2.1) R.2.2.2.2.2.2.2 → ∀ m i (s : Int32 × Int32), i + m = 2 ^ S.2.2.2.2.2.1 → lmF S.2.2.1 S.2.2.2.2.2.1 (fun s => mcarB R (fun k => fitF S L R d k S.2.2.2.2.2.1) s x y) = foldF (lmOne S.2.2.1 S.2.2.2.2.2.1 (fun s => mcarB R (fun k => fitF S L R d k S.2.2.2.2.2.1) s x y)) i m s → (s.1 = -1 ∨ ∃ b, s.1 = nI b ∧ b < 512) → C 118 [(0, .ref 0), (1, .int x), (2, .int y), (4, .int s.1), (5, .int s.2), (6, .int (nI i))] [] (modelW 0 (tk 0 5) (tk 0 6) (0) tr wh fa ta sz ix so pl nu wd td mk mo tx P D ea pa co (sFit S g) Cc V ba B R L G) 0 0 := by
    intro g hg m
    induction m with
    | zero =>
      intro i s hi he hs
      have hK := hK g
      rw [he, foldF] at hK
      refine hC _ _ _ _ _ _ (And.intro (fun _ => And.intro (fun c => ?_) (fun c => ?_)) (fun z => absurd (show (1 : Int32) <<< (nI S.2.2.2.2.2.1 &&& 31) ≤ nI i by rw [hsh]; exact nI_le (by omega) (by omega)) z))
      · rw [if_neg c] at hK
        exact ⟨_, _, _, _, _, _, _, _, _, _, _, _, _, _, _, _, _, _, _, _, _, _, _, _, rfl, rfl, hK⟩
      · rw [if_pos c] at hK
        exact ⟨_, _, _, _, _, _, _, _, _, _, _, _, _, _, _, _, _, _, _, _, _, _, _, _, rfl, rfl, hK⟩
    | succ m ih =>
      intro i s hi he hs
      rw [foldF, lmOne] at he
      have nx : ∀ s', (if lmT S.2.2.1 S.2.2.2.2.2.1 s i && mcarB R (fun k => fitF S L R d k S.2.2.2.2.2.1) (nI i) x y then (nI i, cstF S.2.2.1 (nI i) S.2.2.2.2.2.1) else s) = s' → (s'.1 = -1 ∨ ∃ b, s'.1 = nI b ∧ b < 512) → C 118 [(0, .ref 0), (1, .int x), (2, .int y), (4, .int s'.1), (5, .int s'.2), (6, .int (nI i + 1))] [] (modelW 0 (tk 0 5) (tk 0 6) (0) tr wh fa ta sz ix so pl nu wd td mk mo tx P D ea pa co (sFit S g) Cc V ba B R L G) 0 0 := by
        intro s' e hs'
        rw [e] at he
        have h9 := ih (i + 1) s' (by omega) he hs'
        rw [← nI_1] at h9
        exact h9
      have fin : ∀ b : Bool, b = lmT S.2.2.1 S.2.2.2.2.2.1 s i → C 217 [(0, .ref 0), (1, .int x), (2, .int y), (4, .int s.1), (5, .int s.2), (6, .int (nI i)), (7, .int (cstF S.2.2.1 (nI i) S.2.2.2.2.2.1)), (8, .int (bI b))] [] (modelW 0 (tk 0 5) (tk 0 6) (0) tr wh fa ta sz ix so pl nu wd td mk mo tx P D ea pa co (sFit S g) Cc V ba B R L G) 0 0 := by
        intro b hb
        refine hC _ _ _ _ _ _ (And.intro (fun c => ?_) (fun c => ⟨_, _, _, _, _, _, _, _, _, _, _, _, _, _, _, _, _, _, _, _, _, _, _, _, _, _, _, _, (fun k => fitF S L R d k S.2.2.2.2.2.1), nI i, x, y, rfl, rfl, hro, hg, And.intro (fun c4 => ?_) (fun c4 => ?_)⟩))
        · exact nx s (by rw [← hb, bI_0.mp c]; rfl) hs
        · exact nx (nI i, cstF S.2.2.1 (nI i) S.2.2.2.2.2.1) (by rw [← hb, bI_n0.mp c, bI_n0.mp c4]; rfl) (Or.inr ⟨i, rfl, by omega⟩)
        · exact nx s (by rw [bI_0.mp c4, Bool.and_false]; rfl) hs
      have cost : ∀ m2 j, j + m2 = S.2.2.2.2.2.1 → C 135 [(0, .ref 0), (1, .int x), (2, .int y), (4, .int s.1), (5, .int s.2), (6, .int (nI i)), (7, .int (cstF S.2.2.1 (nI i) j)), (8, .int (nI j))] [] (modelW 0 (tk 0 5) (tk 0 6) (0) tr wh fa ta sz ix so pl nu wd td mk mo tx P D ea pa co (sFit S g) Cc V ba B R L G) 0 0 := by
        intro m2
        induction m2 with
        | zero =>
          intro j hj
          have hj : j = S.2.2.2.2.2.1 := hj
          subst hj
          refine hC _ _ _ _ _ _ (And.intro (fun _ => And.intro (fun c => ?_) (fun c => And.intro (fun c4 => ?_) (fun c4 => And.intro (fun c5 => ?_) (fun c5 => ?_)))) (fun z => absurd (Int32.le_refl _) z))
          · exact fin true (by rw [lmT, decide_eq_true c, Bool.true_or])
          · exact fin true (by rw [lmT, decide_eq_true c4, Bool.true_or, Bool.or_true])
          · exact fin false (by rw [lmT, decide_eq_false c, decide_eq_false c4, decide_eq_false c5]; rfl)
          · obtain ⟨b, hb, hb2⟩ := hs.resolve_left c
            refine ⟨i, rfl, rfl, by omega, b, rfl, (by rw [hb]), hb2, And.intro (fun c6 => ?_) (fun c6 => ?_)⟩
            · rw [← hb] at c6
              exact fin false (by rw [lmT, decide_eq_false c, decide_eq_false c4, decide_eq_false (Int32.not_lt.mpr c6), Bool.and_false]; rfl)
            · rw [← hb] at c6
              exact fin true (by rw [lmT, decide_eq_true c5, decide_eq_true (Int32.not_le.mp c6), Bool.and_self, Bool.or_true, Bool.or_true])
        | succ m2 ih2 =>
          intro j hj
          have hv : vp_in (nI j) 9 := vp_in_nI (by omega) (by omega)
          have hc : (nI j).toNatClampNeg = j := nI_clamp (by omega)
          have h9 := ih2 (j + 1) (by omega)
          rw [cstF, ← nI_1] at h9
          refine hC _ _ _ _ _ _ (And.intro (fun c => absurd (show nI S.2.2.2.2.2.1 ≤ nI j from c) (nI_ge (by omega) (by omega))) (fun _ => And.intro (fun c => ?_) (fun c => ⟨hv, ?_⟩)))
          · rw [if_pos ((bit01 _).resolve_right c), ← show cstF S.2.2.1 (nI i) j + 0 = cstF S.2.2.1 (nI i) j from Int32.add_zero _] at h9
            exact h9
          · rw [if_neg (fun z => by rw [z] at c; exact absurd c (by decide))] at h9
            rw [hc]
            exact h9
      exact hC _ _ _ _ _ _ (And.intro (fun z => absurd (show nI (2 ^ S.2.2.2.2.2.1) ≤ nI i from hsh ▸ z) (nI_ge (by omega) (by omega))) (fun _ => cost S.2.2.2.2.2.1 0 (by omega)))
  have outer : ∀ k j g, j + k = R.2.2.2.2.2.2.2 → fitOk R g (fun k => fitF S L R d k S.2.2.2.2.2.1) j → C 45 [(0, .ref 0), (1, .int x), (2, .int y), (3, .int d), (4, .int (nI j))] [] (modelW 0 (tk 0 5) (tk 0 6) (0) tr wh fa ta sz ix so pl nu wd td mk mo tx P D ea pa co (sFit S g) Cc V ba B R L G) 0 0 := by
    intro k
    induction k with
    | zero =>
      intro j g hj hg
      have hj : j = R.2.2.2.2.2.2.2 := hj
      subst hj
      exact hC _ _ _ _ _ _ (And.intro (fun _ => main g hg (2 ^ S.2.2.2.2.2.1) 0 (-1, 0) (by omega) rfl (Or.inl rfl)) (fun z => absurd (Int32.le_refl _) z))
    | succ k ih =>
      intro j g hj hg
      have hrj : j < R.2.2.2.2.2.2.2 := by omega
      obtain ⟨h1, h2, h3, h4, h5⟩ := rOk_ix hro hrj
      have e0 : 3 * nI j = nI (j * 3) := nI_3m j
      have e : 3 * nI j + R.2.2.2.2.1 (nI j).toNatClampNeg = nI (j * 3 + rpN R j) := by rw [nI_3m, h2, h3, nI_add]
      have inner : ∀ m i g, i + m = rpN R j → fitOk R g (fun k => fitF S L R d k S.2.2.2.2.2.1) j → (∀ q, q < i → g (j * 3 + q) = fitF S L R d (j * 3 + q) S.2.2.2.2.2.1) → C 63 [(0, .ref 0), (1, .int x), (2, .int y), (3, .int d), (4, .int (nI j)), (5, .int (nI (j * 3 + i)))] [] (modelW 0 (tk 0 5) (tk 0 6) (0) tr wh fa ta sz ix so pl nu wd td mk mo tx P D ea pa co (sFit S g) Cc V ba B R L G) 0 0 := by
        intro m
        induction m with
        | zero =>
          intro i g hi hg hq
          have h9 := ih (j + 1) g (by omega) (fun r q hr hq2 => by
            by_cases er : r = j
            · subst er; exact hq q (by omega)
            · exact hg r q (by omega) hq2)
          rw [← nI_1] at h9
          exact hC _ _ _ _ _ _ ⟨h1, And.intro (fun _ => h9) (fun z => absurd (by rw [e]; exact nI_le (by omega) (by omega)) z)⟩
        | succ m ih2 =>
          intro i g hi hg hq
          have hv : vp_in (nI (j * 3 + i)) 48 := vp_in_nI (by omega) (by omega)
          have hc : (nI (j * 3 + i)).toNatClampNeg = j * 3 + i := nI_clamp (by omega)
          have h9 := ih2 (i + 1) (upd g (j * 3 + i) (fitF S L R d (j * 3 + i) S.2.2.2.2.2.1)) (by omega) (fun r q hr hq2 => by
            have := (rOk_ix hro (show r < R.2.2.2.2.2.2.2 by omega)).2.2.2.1
            rw [pk_un (by omega)]; exact hg r q hr hq2) (fun q hq2 => by
            by_cases er : q = i
            · subst er; exact pk_us
            · rw [pk_un (by omega)]; exact hq q (by omega))
          rw [show j * 3 + (i + 1) = j * 3 + i + 1 by omega, ← nI_1] at h9
          refine hC _ _ _ _ _ _ ⟨h1, And.intro (fun z => absurd z (by rw [e]; exact nI_ge (by omega) (by omega))) (fun _ => ⟨_, _, _, _, _, _, _, _, _, _, _, _, _, _, _, _, _, _, _, _, _, _, _, _, _, _, _, _, j * 3 + i, d, rfl, rfl, by omega, hL, hS, hv, ?_⟩)⟩
          rw [hc, fitF_g]
          exact h9
      have h9 := inner (rpN R j) 0 g (by omega) hg (fun q hq => absurd hq (Nat.not_lt_zero q))
      rw [Nat.add_zero, ← e0] at h9
      exact hC _ _ _ _ _ _ (And.intro (fun z => absurd z (nI_ge (by omega) (by omega))) (fun _ => h9))
  exact outer R.2.2.2.2.2.2.2 0 S.2.2.2.1 (by omega) (fun r q hr => absurd hr (Nat.not_lt_zero r))
def tX14_bought : List q_I := [(0, .aload_n 0, 1, 0, 0), (1, .iconst 0, 1, 0, 0), (2, .putfield 123, 3, 0, 0), (5, .aload_n 0, 1, 0, 0), (6, .getfield 63, 3, 0, 0), (9, .ireturn, 1, 0, 0)]
theorem tX14_bought_ok : (tX14_bought.all (q_okI cX14_bought)) = true := by decide +kernel

abbrev fdX14_bought : List (Nat ⊕ (Nat × Nat)) := [.inl 0, .inr (0, 7), .inr (0, 17), .inr (0, 18), .inr (0, 19), .inr (0, 20), .inr (0, 21), .inr (0, 22), .inr (0, 23), .inr (0, 26), .inr (0, 27), .inr (0, 28), .inr (0, 31), .inr (0, 32), .inr (0, 33), .inr (0, 34), .inr (0, 36), .inr (0, 37), .inr (0, 38), .inr (0, 39), .inr (0, 40), .inr (0, 41), .inr (0, 43), .inr (0, 44), .inr (0, 45), .inr (0, 46), .inr (0, 47), .inr (0, 48), .inr (0, 50), .inr (0, 51), .inr (0, 52), .inr (0, 4), .inr (31, 0), .inr (31, 1), .inr (31, 2), .inr (31, 3), .inr (31, 8), .inr (31, 9), .inr (31, 10), .inr (31, 11), .inr (31, 12), .inr (31, 13), .inr (31, 14), .inr (31, 15), .inr (31, 16), .inr (31, 17), .inr (31, 18), .inr (31, 19), .inr (31, 20), .inr (31, 21), .inr (31, 22), .inr (31, 23), .inr (31, 24), .inr (31, 25), .inr (31, 26), .inr (31, 27), .inr (31, 28)]
def spX14_bought : q_P := fun a w K => ∃ (th : Int32) (tr : Int32) (wh : Int32) (fa : Int32) (ta : Nat) (sz : Int32) (ix : Int32) (so : Int32) (pl : Int32) (nu : Int32) (wd : Int64) (td : Int32) (mk : Int32) (mo : Int32) (tx : Nat → Int32) (P : PT) (D : DT) (ea : Nat → Int32) (pa : Nat → Int32) (co : Nat → Int32) (S : ST) (Cc : CT) (V : VT) (ba : Nat → Int32) (B : BT) (R : RT) (L : LT) (G : GT), w = (modelW 0 (tk 0 5) (tk 0 6) th tr wh fa ta sz ix so pl nu wd td mk mo tx P D ea pa co S Cc V ba B R L G) ∧ a = [.ref 0] ∧ K (.inl (some (.int S.2.2.2.2.2.2))) (modelW 0 (tk 0 5) (tk 0 6) (0) tr wh fa ta sz ix so pl nu wd td mk mo tx P D ea pa co S Cc V ba B R L G)
abbrev csX14_bought : q_S := (1, 14, 0, 1, 0, 0, fdX14_bought, spX14_bought)
def EX14_bought : q_E := (tX14_bought, [], 1, flX14, [], [], [], [], [], [], 0, 0, 0, (some .int), [], [], 0, 0)
theorem okX14_bought (l : Launch) : q_Eok l RX14 cX14_bought EX14_bought := ⟨tX14_bought_ok, flX14_ok, q_nil, q_nil, q_nil, q_nil, q_nil, q_nil, (fun h => absurd h (by decide))⟩
set_option maxRecDepth 100000 in
set_option maxHeartbeats 4000000 in
theorem ctX14_bought (l : Launch) : q_CT l yX14_bought (.code yX14_bought cX14_bought 1 (some .int)) 0 0 0 spX14_bought := by
  refine q_ct_of EX14_bought (by decide +kernel) (okX14_bought l) rfl rfl rfl rfl rfl q_nil (fun ci h => by cases h) rfl ?_
  intro a w K h
  obtain ⟨th, tr, wh, fa, ta, sz, ix, so, pl, nu, wd, td, mk, mo, tx, P, D, ea, pa, co, S, Cc, V, ba, B, R, L, G, rfl, rfl, hK⟩ := h
  refine ⟨Nat.le_of_ble_eq_true rfl, fun C hC => hC _ _ _ _ _ _ ?_⟩
  exact hK
def tX14_trouble : List q_I := [(0, .aload_n 0, 1, 0, 0), (1, .iconst 0, 1, 0, 0), (2, .putfield 123, 3, 0, 0), (5, .aload_n 0, 1, 0, 0), (6, .getfield 126, 3, 0, 0), (9, .ireturn, 1, 0, 0)]
theorem tX14_trouble_ok : (tX14_trouble.all (q_okI cX14_trouble)) = true := by decide +kernel

abbrev fdX14_trouble : List (Nat ⊕ (Nat × Nat)) := [.inl 0, .inr (0, 7), .inr (0, 17), .inr (0, 18), .inr (0, 19), .inr (0, 20), .inr (0, 21), .inr (0, 22), .inr (0, 23), .inr (0, 26), .inr (0, 27), .inr (0, 28), .inr (0, 31), .inr (0, 32), .inr (0, 33), .inr (0, 34), .inr (0, 36), .inr (0, 37), .inr (0, 38), .inr (0, 39), .inr (0, 40), .inr (0, 41), .inr (0, 43), .inr (0, 44), .inr (0, 45), .inr (0, 46), .inr (0, 47), .inr (0, 48), .inr (0, 50), .inr (0, 51), .inr (0, 52), .inr (0, 4), .inr (31, 0), .inr (31, 1), .inr (31, 2), .inr (31, 3), .inr (31, 8), .inr (31, 9), .inr (31, 10), .inr (31, 11), .inr (31, 12), .inr (31, 13), .inr (31, 14), .inr (31, 15), .inr (31, 16), .inr (31, 17), .inr (31, 18), .inr (31, 19), .inr (31, 20), .inr (31, 21), .inr (31, 22), .inr (31, 23), .inr (31, 24), .inr (31, 25), .inr (31, 26), .inr (31, 27), .inr (31, 28)]
def spX14_trouble : q_P := fun a w K => ∃ (th : Int32) (tr : Int32) (wh : Int32) (fa : Int32) (ta : Nat) (sz : Int32) (ix : Int32) (so : Int32) (pl : Int32) (nu : Int32) (wd : Int64) (td : Int32) (mk : Int32) (mo : Int32) (tx : Nat → Int32) (P : PT) (D : DT) (ea : Nat → Int32) (pa : Nat → Int32) (co : Nat → Int32) (S : ST) (Cc : CT) (V : VT) (ba : Nat → Int32) (B : BT) (R : RT) (L : LT) (G : GT), w = (modelW 0 (tk 0 5) (tk 0 6) th tr wh fa ta sz ix so pl nu wd td mk mo tx P D ea pa co S Cc V ba B R L G) ∧ a = [.ref 0] ∧ K (.inl (some (.int tr))) (modelW 0 (tk 0 5) (tk 0 6) (0) tr wh fa ta sz ix so pl nu wd td mk mo tx P D ea pa co S Cc V ba B R L G)
abbrev csX14_trouble : q_S := (1, 14, 0, 1, 0, 0, fdX14_trouble, spX14_trouble)
def EX14_trouble : q_E := (tX14_trouble, [], 1, flX14, [], [], [], [], [], [], 0, 0, 0, (some .int), [], [], 0, 0)
theorem okX14_trouble (l : Launch) : q_Eok l RX14 cX14_trouble EX14_trouble := ⟨tX14_trouble_ok, flX14_ok, q_nil, q_nil, q_nil, q_nil, q_nil, q_nil, (fun h => absurd h (by decide))⟩
set_option maxRecDepth 100000 in
set_option maxHeartbeats 4000000 in
theorem ctX14_trouble (l : Launch) : q_CT l yX14_trouble (.code yX14_trouble cX14_trouble 1 (some .int)) 0 0 0 spX14_trouble := by
  refine q_ct_of EX14_trouble (by decide +kernel) (okX14_trouble l) rfl rfl rfl rfl rfl q_nil (fun ci h => by cases h) rfl ?_
  intro a w K h
  obtain ⟨th, tr, wh, fa, ta, sz, ix, so, pl, nu, wd, td, mk, mo, tx, P, D, ea, pa, co, S, Cc, V, ba, B, R, L, G, rfl, rfl, hK⟩ := h
  refine ⟨Nat.le_of_ble_eq_true rfl, fun C hC => hC _ _ _ _ _ _ ?_⟩
  exact hK
def tX14_fault : List q_I := [(0, .aload_n 0, 1, 0, 0), (1, .iconst 0, 1, 0, 0), (2, .putfield 123, 3, 0, 0), (5, .aload_n 0, 1, 0, 0), (6, .getfield 362, 3, 0, 0), (9, .ireturn, 1, 0, 0)]
theorem tX14_fault_ok : (tX14_fault.all (q_okI cX14_fault)) = true := by decide +kernel

abbrev fdX14_fault : List (Nat ⊕ (Nat × Nat)) := [.inl 0, .inr (0, 7), .inr (0, 17), .inr (0, 18), .inr (0, 19), .inr (0, 20), .inr (0, 21), .inr (0, 22), .inr (0, 23), .inr (0, 26), .inr (0, 27), .inr (0, 28), .inr (0, 31), .inr (0, 32), .inr (0, 33), .inr (0, 34), .inr (0, 36), .inr (0, 37), .inr (0, 38), .inr (0, 39), .inr (0, 40), .inr (0, 41), .inr (0, 43), .inr (0, 44), .inr (0, 45), .inr (0, 46), .inr (0, 47), .inr (0, 48), .inr (0, 50), .inr (0, 51), .inr (0, 52), .inr (0, 4), .inr (31, 0), .inr (31, 1), .inr (31, 2), .inr (31, 3), .inr (31, 8), .inr (31, 9), .inr (31, 10), .inr (31, 11), .inr (31, 12), .inr (31, 13), .inr (31, 14), .inr (31, 15), .inr (31, 16), .inr (31, 17), .inr (31, 18), .inr (31, 19), .inr (31, 20), .inr (31, 21), .inr (31, 22), .inr (31, 23), .inr (31, 24), .inr (31, 25), .inr (31, 26), .inr (31, 27), .inr (31, 28)]
def spX14_fault : q_P := fun a w K => ∃ (th : Int32) (tr : Int32) (wh : Int32) (fa : Int32) (ta : Nat) (sz : Int32) (ix : Int32) (so : Int32) (pl : Int32) (nu : Int32) (wd : Int64) (td : Int32) (mk : Int32) (mo : Int32) (tx : Nat → Int32) (P : PT) (D : DT) (ea : Nat → Int32) (pa : Nat → Int32) (co : Nat → Int32) (S : ST) (Cc : CT) (V : VT) (ba : Nat → Int32) (B : BT) (R : RT) (L : LT) (G : GT), w = (modelW 0 (tk 0 5) (tk 0 6) th tr wh fa ta sz ix so pl nu wd td mk mo tx P D ea pa co S Cc V ba B R L G) ∧ a = [.ref 0] ∧ K (.inl (some (.int fa))) (modelW 0 (tk 0 5) (tk 0 6) (0) tr wh fa ta sz ix so pl nu wd td mk mo tx P D ea pa co S Cc V ba B R L G)
abbrev csX14_fault : q_S := (1, 14, 0, 1, 0, 0, fdX14_fault, spX14_fault)
def EX14_fault : q_E := (tX14_fault, [], 1, flX14, [], [], [], [], [], [], 0, 0, 0, (some .int), [], [], 0, 0)
theorem okX14_fault (l : Launch) : q_Eok l RX14 cX14_fault EX14_fault := ⟨tX14_fault_ok, flX14_ok, q_nil, q_nil, q_nil, q_nil, q_nil, q_nil, (fun h => absurd h (by decide))⟩
set_option maxRecDepth 100000 in
set_option maxHeartbeats 4000000 in
theorem ctX14_fault (l : Launch) : q_CT l yX14_fault (.code yX14_fault cX14_fault 1 (some .int)) 0 0 0 spX14_fault := by
  refine q_ct_of EX14_fault (by decide +kernel) (okX14_fault l) rfl rfl rfl rfl rfl q_nil (fun ci h => by cases h) rfl ?_
  intro a w K h
  obtain ⟨th, tr, wh, fa, ta, sz, ix, so, pl, nu, wd, td, mk, mo, tx, P, D, ea, pa, co, S, Cc, V, ba, B, R, L, G, rfl, rfl, hK⟩ := h
  refine ⟨Nat.le_of_ble_eq_true rfl, fun C hC => hC _ _ _ _ _ _ ?_⟩
  exact hK
def tX14_where : List q_I := [(0, .aload_n 0, 1, 0, 0), (1, .iconst 0, 1, 0, 0), (2, .putfield 123, 3, 0, 0), (5, .aload_n 0, 1, 0, 0), (6, .getfield 9, 3, 0, 0), (9, .ireturn, 1, 0, 0)]
theorem tX14_where_ok : (tX14_where.all (q_okI cX14_where)) = true := by decide +kernel

abbrev fdX14_where : List (Nat ⊕ (Nat × Nat)) := [.inl 0, .inr (0, 7), .inr (0, 17), .inr (0, 18), .inr (0, 19), .inr (0, 20), .inr (0, 21), .inr (0, 22), .inr (0, 23), .inr (0, 26), .inr (0, 27), .inr (0, 28), .inr (0, 31), .inr (0, 32), .inr (0, 33), .inr (0, 34), .inr (0, 36), .inr (0, 37), .inr (0, 38), .inr (0, 39), .inr (0, 40), .inr (0, 41), .inr (0, 43), .inr (0, 44), .inr (0, 45), .inr (0, 46), .inr (0, 47), .inr (0, 48), .inr (0, 50), .inr (0, 51), .inr (0, 52), .inr (0, 4), .inr (31, 0), .inr (31, 1), .inr (31, 2), .inr (31, 3), .inr (31, 8), .inr (31, 9), .inr (31, 10), .inr (31, 11), .inr (31, 12), .inr (31, 13), .inr (31, 14), .inr (31, 15), .inr (31, 16), .inr (31, 17), .inr (31, 18), .inr (31, 19), .inr (31, 20), .inr (31, 21), .inr (31, 22), .inr (31, 23), .inr (31, 24), .inr (31, 25), .inr (31, 26), .inr (31, 27), .inr (31, 28)]
def spX14_where : q_P := fun a w K => ∃ (th : Int32) (tr : Int32) (wh : Int32) (fa : Int32) (ta : Nat) (sz : Int32) (ix : Int32) (so : Int32) (pl : Int32) (nu : Int32) (wd : Int64) (td : Int32) (mk : Int32) (mo : Int32) (tx : Nat → Int32) (P : PT) (D : DT) (ea : Nat → Int32) (pa : Nat → Int32) (co : Nat → Int32) (S : ST) (Cc : CT) (V : VT) (ba : Nat → Int32) (B : BT) (R : RT) (L : LT) (G : GT), w = (modelW 0 (tk 0 5) (tk 0 6) th tr wh fa ta sz ix so pl nu wd td mk mo tx P D ea pa co S Cc V ba B R L G) ∧ a = [.ref 0] ∧ K (.inl (some (.int wh))) (modelW 0 (tk 0 5) (tk 0 6) (0) tr wh fa ta sz ix so pl nu wd td mk mo tx P D ea pa co S Cc V ba B R L G)
abbrev csX14_where : q_S := (1, 14, 0, 1, 0, 0, fdX14_where, spX14_where)
def EX14_where : q_E := (tX14_where, [], 1, flX14, [], [], [], [], [], [], 0, 0, 0, (some .int), [], [], 0, 0)
theorem okX14_where (l : Launch) : q_Eok l RX14 cX14_where EX14_where := ⟨tX14_where_ok, flX14_ok, q_nil, q_nil, q_nil, q_nil, q_nil, q_nil, (fun h => absurd h (by decide))⟩
set_option maxRecDepth 100000 in
set_option maxHeartbeats 4000000 in
theorem ctX14_where (l : Launch) : q_CT l yX14_where (.code yX14_where cX14_where 1 (some .int)) 0 0 0 spX14_where := by
  refine q_ct_of EX14_where (by decide +kernel) (okX14_where l) rfl rfl rfl rfl rfl q_nil (fun ci h => by cases h) rfl ?_
  intro a w K h
  obtain ⟨th, tr, wh, fa, ta, sz, ix, so, pl, nu, wd, td, mk, mo, tx, P, D, ea, pa, co, S, Cc, V, ba, B, R, L, G, rfl, rfl, hK⟩ := h
  refine ⟨Nat.le_of_ble_eq_true rfl, fun C hC => hC _ _ _ _ _ _ ?_⟩
  exact hK
def tX14_thrown : List q_I := [(0, .aload_n 0, 1, 0, 0), (1, .getfield 123, 3, 0, 0), (4, .ireturn, 1, 0, 0)]
theorem tX14_thrown_ok : (tX14_thrown.all (q_okI cX14_thrown)) = true := by decide +kernel

abbrev fdX14_thrown : List (Nat ⊕ (Nat × Nat)) := [.inl 0, .inr (0, 7), .inr (0, 17), .inr (0, 18), .inr (0, 19), .inr (0, 20), .inr (0, 21), .inr (0, 22), .inr (0, 23), .inr (0, 26), .inr (0, 27), .inr (0, 28), .inr (0, 31), .inr (0, 32), .inr (0, 33), .inr (0, 34), .inr (0, 36), .inr (0, 37), .inr (0, 38), .inr (0, 39), .inr (0, 40), .inr (0, 41), .inr (0, 43), .inr (0, 44), .inr (0, 45), .inr (0, 46), .inr (0, 47), .inr (0, 48), .inr (0, 50), .inr (0, 51), .inr (0, 52), .inr (0, 4), .inr (31, 0), .inr (31, 1), .inr (31, 2), .inr (31, 3), .inr (31, 8), .inr (31, 9), .inr (31, 10), .inr (31, 11), .inr (31, 12), .inr (31, 13), .inr (31, 14), .inr (31, 15), .inr (31, 16), .inr (31, 17), .inr (31, 18), .inr (31, 19), .inr (31, 20), .inr (31, 21), .inr (31, 22), .inr (31, 23), .inr (31, 24), .inr (31, 25), .inr (31, 26), .inr (31, 27), .inr (31, 28)]
def spX14_thrown : q_P := fun a w K => ∃ (th : Int32) (tr : Int32) (wh : Int32) (fa : Int32) (ta : Nat) (sz : Int32) (ix : Int32) (so : Int32) (pl : Int32) (nu : Int32) (wd : Int64) (td : Int32) (mk : Int32) (mo : Int32) (tx : Nat → Int32) (P : PT) (D : DT) (ea : Nat → Int32) (pa : Nat → Int32) (co : Nat → Int32) (S : ST) (Cc : CT) (V : VT) (ba : Nat → Int32) (B : BT) (R : RT) (L : LT) (G : GT), w = (modelW 0 (tk 0 5) (tk 0 6) th tr wh fa ta sz ix so pl nu wd td mk mo tx P D ea pa co S Cc V ba B R L G) ∧ a = [.ref 0] ∧ K (.inl (some (.int th))) (modelW 0 (tk 0 5) (tk 0 6) th tr wh fa ta sz ix so pl nu wd td mk mo tx P D ea pa co S Cc V ba B R L G)
abbrev csX14_thrown : q_S := (1, 14, 0, 1, 0, 0, fdX14_thrown, spX14_thrown)
def EX14_thrown : q_E := (tX14_thrown, [], 1, flX14, [], [], [], [], [], [], 0, 0, 0, (some .int), [], [], 0, 0)
theorem okX14_thrown (l : Launch) : q_Eok l RX14 cX14_thrown EX14_thrown := ⟨tX14_thrown_ok, flX14_ok, q_nil, q_nil, q_nil, q_nil, q_nil, q_nil, (fun h => absurd h (by decide))⟩
set_option maxRecDepth 100000 in
set_option maxHeartbeats 4000000 in
theorem ctX14_thrown (l : Launch) : q_CT l yX14_thrown (.code yX14_thrown cX14_thrown 1 (some .int)) 0 0 0 spX14_thrown := by
  refine q_ct_of EX14_thrown (by decide +kernel) (okX14_thrown l) rfl rfl rfl rfl rfl q_nil (fun ci h => by cases h) rfl ?_
  intro a w K h
  obtain ⟨th, tr, wh, fa, ta, sz, ix, so, pl, nu, wd, td, mk, mo, tx, P, D, ea, pa, co, S, Cc, V, ba, B, R, L, G, rfl, rfl, hK⟩ := h
  refine ⟨Nat.le_of_ble_eq_true rfl, fun C hC => hC _ _ _ _ _ _ ?_⟩
  exact hK
