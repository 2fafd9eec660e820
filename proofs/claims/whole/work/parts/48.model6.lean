
def tX14_stampsOf : List q_I := [(0, .iconst 0, 1, 0, 0), (1, .istore_n 3, 1, 0, 0), (2, .iconst 0, 1, 0, 0), (3, .istore 4, 2, 0, 0), (5, .iload 4, 2, 0, 0), (7, .aload_n 0, 1, 0, 0), (8, .getfield 385, 3, 0, 0), (11, .if_icmp .ge 82, 3, 0, 93), (14, .aload_n 0, 1, 0, 0), (15, .getfield 66, 3, 0, 0), (18, .iload 4, 2, 0, 0), (20, .iaload, 1, 0, 0), (21, .aload_n 0, 1, 0, 0), (22, .getfield 379, 3, 0, 0), (25, .getfield 286, 3, 0, 0), (28, .iload_n 1, 1, 0, 0), (29, .iaload, 1, 0, 0), (30, .if_icmp .ne 38, 3, 0, 68), (33, .aload_n 0, 1, 0, 0), (34, .aload_n 0, 1, 0, 0), (35, .getfield 379, 3, 0, 0), (38, .getfield 291, 3, 0, 0), (41, .iload_n 1, 1, 0, 0), (42, .iaload, 1, 0, 0), (43, .aload_n 0, 1, 0, 0), (44, .getfield 66, 3, 0, 0), (47, .iload 4, 2, 0, 0), (49, .iaload, 1, 0, 0), (50, .aload_n 0, 1, 0, 0), (51, .getfield 69, 3, 0, 0), (54, .iload 4, 2, 0, 0), (56, .iaload, 1, 0, 0), (57, .iload_n 2, 1, 0, 0), (58, .invokevirtual 430, 3, 0, 0), (61, .ifCond .eq 7, 3, 0, 68), (64, .iconst 1, 1, 1, 0), (65, .goto 4, 3, 0, 69), (68, .iconst 0, 1, 0, 0), (69, .istore 5, 2, 0, 0), (71, .iload_n 3, 1, 0, 0), (72, .iload 5, 2, 0, 0), (74, .ifCond .eq 10, 3, 0, 84), (77, .iconst 1, 1, 1, 0), (78, .iload 4, 2, 0, 0), (80, .ishl, 1, 0, 0), (81, .goto 4, 3, 0, 85), (84, .iconst 0, 1, 0, 0), (85, .ior, 1, 0, 0), (86, .istore_n 3, 1, 0, 0), (87, .iinc 4 1, 3, 1, 0), (90, .goto (-85), 3, 0, 5), (93, .iload_n 3, 1, 0, 0), (94, .ireturn, 1, 0, 0)]
theorem tX14_stampsOf_ok : (tX14_stampsOf.all (q_okI cX14_stampsOf)) = true := by decide +kernel

abbrev fdX14_stampsOf : List (Nat ⊕ (Nat × Nat)) := [.inl 0, .inr (0, 7), .inr (0, 17), .inr (0, 18), .inr (0, 19), .inr (0, 20), .inr (0, 21), .inr (0, 22), .inr (0, 23), .inr (0, 26), .inr (0, 27), .inr (0, 28), .inr (0, 31), .inr (0, 32), .inr (0, 33), .inr (0, 34), .inr (0, 36), .inr (0, 37), .inr (0, 38), .inr (0, 39), .inr (0, 40), .inr (0, 41), .inr (0, 43), .inr (0, 44), .inr (0, 45), .inr (0, 46), .inr (0, 47), .inr (0, 48), .inr (0, 50), .inr (0, 51), .inr (0, 52), .inr (0, 4), .inr (31, 0), .inr (31, 1), .inr (31, 2), .inr (31, 3), .inr (31, 8), .inr (31, 9), .inr (31, 10), .inr (31, 11), .inr (31, 12), .inr (31, 13), .inr (31, 14), .inr (31, 15), .inr (31, 16), .inr (31, 17), .inr (31, 18), .inr (31, 19), .inr (31, 20), .inr (31, 21), .inr (31, 22), .inr (31, 23), .inr (31, 24), .inr (31, 25), .inr (31, 26), .inr (31, 27), .inr (31, 28)]
def spX14_stampsOf : q_P := fun a w K => ∃ (th : Int32) (tr : Int32) (wh : Int32) (fa : Int32) (ta : Nat) (sz : Int32) (ix : Int32) (so : Int32) (pl : Int32) (nu : Int32) (wd : Int64) (td : Int32) (mk : Int32) (mo : Int32) (tx : Nat → Int32) (P : PT) (D : DT) (ea : Nat → Int32) (pa : Nat → Int32) (co : Nat → Int32) (S : ST) (Cc : CT) (V : VT) (ba : Nat → Int32) (B : BT) (R : RT) (L : LT) (G : GT) (q : Nat) (d : Int32), w = (modelW 0 (tk 0 5) (tk 0 6) th tr wh fa ta sz ix so pl nu wd td mk mo tx P D ea pa co S Cc V ba B R L G) ∧ a = [.ref 0, .int (nI q), .int d] ∧ q < 48 ∧ L_n L ≤ 24 ∧ S.2.2.2.2.2.1 ≤ 9 ∧ K (.inl (some (.int (fitF S L R d q S.2.2.2.2.2.1)))) (modelW 0 (tk 0 5) (tk 0 6) th tr wh fa ta sz ix so pl nu wd td mk mo tx P D ea pa co S Cc V ba B R L G)
abbrev csX14_stampsOf : q_S := (3, 14, 2, 6, 0, 0, fdX14_stampsOf, spX14_stampsOf)
def EX14_stampsOf : q_E := (tX14_stampsOf, [(5, [0, 1, 2, 3, 4]), (71, [0, 1, 2, 3, 4, 5])], 6, flX14, [(430, csX14_isTaken)], [], [], [], [], [], 2, 0, 0, (some .int), [], [], 0, 0)
theorem okX14_stampsOf (l : Launch) : q_Eok l RX14 cX14_stampsOf EX14_stampsOf := ⟨tX14_stampsOf_ok, flX14_ok, List.forall_mem_cons.mpr ⟨(coX14_430 l), q_nil⟩, q_nil, q_nil, q_nil, q_nil, q_nil, (fun h => absurd h (by decide))⟩
set_option maxRecDepth 100000 in
set_option maxHeartbeats 4000000 in
theorem ctX14_stampsOf (l : Launch) : q_CT l yX14_stampsOf (.code yX14_stampsOf cX14_stampsOf 6 (some .int)) 2 0 0 spX14_stampsOf := by
  refine q_ct_of EX14_stampsOf (by decide +kernel) (okX14_stampsOf l) rfl rfl rfl rfl rfl q_nil (fun ci h => by cases h) rfl ?_
  intro a w K h
  obtain ⟨th, tr, wh, fa, ta, sz, ix, so, pl, nu, wd, td, mk, mo, tx, P, D, ea, pa, co, S, Cc, V, ba, B, R, L, G, q, d, rfl, rfl, hq, hL, hS, hK⟩ := h
  have hvq : vp_in (nI q) 48 := vp_in_nI hq (by omega)
  have hcq : (nI q).toNatClampNeg = q := nI_clamp (by omega)
  refine ⟨Nat.le_of_ble_eq_true rfl, fun C hC => ?_⟩
  have loop : ∀ k i, i + k = S.2.2.2.2.2.1 → C 5 [(0, .ref 0), (1, .int (nI q)), (2, .int d), (3, .int (fitF S L R d q i)), (4, .int (nI i))] [] (modelW 0 (tk 0 5) (tk 0 6) th tr wh fa ta sz ix so pl nu wd td mk mo tx P D ea pa co S Cc V ba B R L G) 0 0 := by
    intro k
    induction k with
    | zero =>
      intro i hi
      have hi : i = S.2.2.2.2.2.1 := hi
      subst hi
      exact hC _ _ _ _ _ _ (And.intro (fun c => hK) (fun c => absurd (Int32.le_refl _) c))
    | succ k ih =>
      intro i hi
      have hv : vp_in (nI i) 9 := vp_in_nI (by omega) (by omega)
      have hc : (nI i).toNatClampNeg = i := nI_clamp (by omega)
      have h9 := ih (i + 1) (by omega)
      rw [fitF, ← nI_1] at h9
      have fin : ∀ b : Bool, (b = true ↔ (S.1 i = R.2.2.2.2.2.1 q ∧ accOn L d (R.2.2.2.2.2.2.1 q) (S.1 i) (S.2.1 i) = true)) → C 71 [(0, .ref 0), (1, .int (nI q)), (2, .int d), (3, .int (fitF S L R d q i)), (4, .int (nI i)), (5, .int (bI b))] [] (modelW 0 (tk 0 5) (tk 0 6) th tr wh fa ta sz ix so pl nu wd td mk mo tx P D ea pa co S Cc V ba B R L G) 0 0 := by
        intro b hb
        refine hC _ _ _ _ _ _ (And.intro (fun c => ?_) (fun c => ?_))
        · rw [if_neg (fun z => by rw [hb.mpr z] at c; exact absurd c (by decide))] at h9
          rw [← show fitF S L R d q i ||| 0 = fitF S L R d q i from Int32.or_zero] at h9
          exact h9
        · rw [if_pos (hb.mp (bI_n0.mp c))] at h9
          exact h9
      refine hC _ _ _ _ _ _ (And.intro (fun c => absurd c (nI_ge (by omega) (by omega))) (fun c => ⟨hv, hvq, And.intro (fun c2 => ?_) (fun c2 => ⟨hvq, hv, hv, _, _, _, _, _, _, _, _, _, _, _, _, _, _, _, _, _, _, _, _, _, _, _, _, _, _, _, _, rfl, rfl, hL, And.intro (fun c3 => ?_) (fun c3 => ?_)⟩)⟩))
      · rw [hc, hcq] at c2
        exact fin false ⟨fun z => absurd z (by decide), fun z => absurd z.1 c2⟩
      · have c3 := bI_0.mp c3
        rw [hc, hcq] at c3
        exact fin false ⟨fun z => absurd z (by decide), fun z => by rw [c3] at z; exact z.2⟩
      · have c3 := bI_n0.mp c3
        rw [hc, hcq] at c2 c3
        exact fin true ⟨fun _ => ⟨c2, c3⟩, fun _ => rfl⟩
  exact hC _ _ _ _ _ _ (loop S.2.2.2.2.2.1 0 (by omega))
def mcarB (R : RT) (f : Nat → Int32) (set x y : Int32) : Bool := decide ((sprR R (carO R f set) 8 ((1 : Int32) <<< (x &&& 31)) >>> (y &&& 31)) &&& 1 = 1)
def tX14_isCarried : List q_I := [(0, .iconst 1, 1, 1, 0), (1, .iload_n 2, 1, 0, 0), (2, .ishl, 1, 0, 0), (3, .istore 4, 2, 0, 0), (5, .iconst 0, 1, 0, 0), (6, .istore 5, 2, 0, 0), (8, .iload 5, 2, 0, 0), (10, .bipush 8, 2, 8, 0), (12, .if_icmp .ge 136, 3, 0, 148), (15, .iconst 0, 1, 0, 0), (16, .istore 6, 2, 0, 0), (18, .iload 6, 2, 0, 0), (20, .aload_n 0, 1, 0, 0), (21, .getfield 379, 3, 0, 0), (24, .getfield 255, 3, 0, 0), (27, .if_icmp .ge 115, 3, 0, 142), (30, .iconst 1, 1, 1, 0), (31, .istore 7, 2, 0, 0), (33, .iconst 3, 1, 3, 0), (34, .iload 6, 2, 0, 0), (36, .imul, 1, 0, 0), (37, .istore 8, 2, 0, 0), (39, .iload 8, 2, 0, 0), (41, .iconst 3, 1, 3, 0), (42, .iload 6, 2, 0, 0), (44, .imul, 1, 0, 0), (45, .aload_n 0, 1, 0, 0), (46, .getfield 379, 3, 0, 0), (49, .getfield 283, 3, 0, 0), (52, .iload 6, 2, 0, 0), (54, .iaload, 1, 0, 0), (55, .iadd, 1, 0, 0), (56, .if_icmp .ge 33, 3, 0, 89), (59, .iload 7, 2, 0, 0), (61, .ifCond .eq 19, 3, 0, 80), (64, .aload_n 0, 1, 0, 0), (65, .getfield 75, 3, 0, 0), (68, .iload 8, 2, 0, 0), (70, .iaload, 1, 0, 0), (71, .iload_n 1, 1, 0, 0), (72, .iand, 1, 0, 0), (73, .ifCond .eq 7, 3, 0, 80), (76, .iconst 1, 1, 1, 0), (77, .goto 4, 3, 0, 81), (80, .iconst 0, 1, 0, 0), (81, .istore 7, 2, 0, 0), (83, .iinc 8 1, 3, 1, 0), (86, .goto (-47), 3, 0, 39), (89, .iconst 1, 1, 1, 0), (90, .aload_n 0, 1, 0, 0), (91, .getfield 379, 3, 0, 0), (94, .getfield 258, 3, 0, 0), (97, .iload 6, 2, 0, 0), (99, .iaload, 1, 0, 0), (100, .ishl, 1, 0, 0), (101, .iconst 1, 1, 1, 0), (102, .aload_n 0, 1, 0, 0), (103, .getfield 379, 3, 0, 0), (106, .getfield 264, 3, 0, 0), (109, .iload 6, 2, 0, 0), (111, .iaload, 1, 0, 0), (112, .ishl, 1, 0, 0), (113, .ior, 1, 0, 0), (114, .istore 8, 2, 0, 0), (116, .iload 7, 2, 0, 0), (118, .ifCond .eq 18, 3, 0, 136), (121, .iload 4, 2, 0, 0), (123, .iload 8, 2, 0, 0), (125, .iand, 1, 0, 0), (126, .ifCond .eq 10, 3, 0, 136), (129, .iload 4, 2, 0, 0), (131, .iload 8, 2, 0, 0), (133, .ior, 1, 0, 0), (134, .istore 4, 2, 0, 0), (136, .iinc 6 1, 3, 1, 0), (139, .goto (-121), 3, 0, 18), (142, .iinc 5 1, 3, 1, 0), (145, .goto (-137), 3, 0, 8), (148, .iload 4, 2, 0, 0), (150, .iload_n 3, 1, 0, 0), (151, .ishr, 1, 0, 0), (152, .iconst 1, 1, 1, 0), (153, .iand, 1, 0, 0), (154, .iconst 1, 1, 1, 0), (155, .if_icmp .ne 7, 3, 0, 162), (158, .iconst 1, 1, 1, 0), (159, .goto 4, 3, 0, 163), (162, .iconst 0, 1, 0, 0), (163, .ireturn, 1, 0, 0)]
theorem tX14_isCarried_ok : (tX14_isCarried.all (q_okI cX14_isCarried)) = true := by decide +kernel

abbrev fdX14_isCarried : List (Nat ⊕ (Nat × Nat)) := [.inl 0, .inr (0, 7), .inr (0, 17), .inr (0, 18), .inr (0, 19), .inr (0, 20), .inr (0, 21), .inr (0, 22), .inr (0, 23), .inr (0, 26), .inr (0, 27), .inr (0, 28), .inr (0, 31), .inr (0, 32), .inr (0, 33), .inr (0, 34), .inr (0, 36), .inr (0, 37), .inr (0, 38), .inr (0, 39), .inr (0, 40), .inr (0, 41), .inr (0, 43), .inr (0, 44), .inr (0, 45), .inr (0, 46), .inr (0, 47), .inr (0, 48), .inr (0, 50), .inr (0, 51), .inr (0, 52), .inr (0, 4), .inr (31, 0), .inr (31, 1), .inr (31, 2), .inr (31, 3), .inr (31, 8), .inr (31, 9), .inr (31, 10), .inr (31, 11), .inr (31, 12), .inr (31, 13), .inr (31, 14), .inr (31, 15), .inr (31, 16), .inr (31, 17), .inr (31, 18), .inr (31, 19), .inr (31, 20), .inr (31, 21), .inr (31, 22), .inr (31, 23), .inr (31, 24), .inr (31, 25), .inr (31, 26), .inr (31, 27), .inr (31, 28)]
def spX14_isCarried : q_P := fun a w K => ∃ (th : Int32) (tr : Int32) (wh : Int32) (fa : Int32) (ta : Nat) (sz : Int32) (ix : Int32) (so : Int32) (pl : Int32) (nu : Int32) (wd : Int64) (td : Int32) (mk : Int32) (mo : Int32) (tx : Nat → Int32) (P : PT) (D : DT) (ea : Nat → Int32) (pa : Nat → Int32) (co : Nat → Int32) (S : ST) (Cc : CT) (V : VT) (ba : Nat → Int32) (B : BT) (R : RT) (L : LT) (G : GT) (f : Nat → Int32) (s x y : Int32), w = (modelW 0 (tk 0 5) (tk 0 6) th tr wh fa ta sz ix so pl nu wd td mk mo tx P D ea pa co S Cc V ba B R L G) ∧ a = [.ref 0, .int s, .int x, .int y] ∧ rOk R ∧ fitOk R S.2.2.2.1 f R.2.2.2.2.2.2.2 ∧ K (.inl (some (.int (bI (mcarB R f s x y))))) (modelW 0 (tk 0 5) (tk 0 6) th tr wh fa ta sz ix so pl nu wd td mk mo tx P D ea pa co S Cc V ba B R L G)
abbrev csX14_isCarried : q_S := (4, 14, 0, 9, 0, 0, fdX14_isCarried, spX14_isCarried)
def EX14_isCarried : q_E := (tX14_isCarried, [(8, [0, 1, 3, 4, 5]), (18, [0, 1, 3, 4, 5, 6]), (39, [0, 1, 3, 4, 5, 6, 7, 8])], 9, flX14, [], [], [], [], [], [], 0, 0, 0, (some .boolean), [], [], 0, 0)
theorem okX14_isCarried (l : Launch) : q_Eok l RX14 cX14_isCarried EX14_isCarried := ⟨tX14_isCarried_ok, flX14_ok, q_nil, q_nil, q_nil, q_nil, q_nil, q_nil, (fun h => absurd h (by decide))⟩
set_option maxRecDepth 100000 in
set_option maxHeartbeats 4000000 in
theorem ctX14_isCarried (l : Launch) : q_CT l yX14_isCarried (.code yX14_isCarried cX14_isCarried 9 (some .boolean)) 0 0 0 spX14_isCarried := by
  refine q_ct_of EX14_isCarried (by decide +kernel) (okX14_isCarried l) rfl rfl rfl rfl rfl q_nil (fun ci h => by cases h) rfl ?_
  intro a w K h
  obtain ⟨th, tr, wh, fa, ta, sz, ix, so, pl, nu, wd, td, mk, mo, tx, P, D, ea, pa, co, S, Cc, V, ba, B, R, L, G, f, s, x, y, rfl, rfl, hro, hf, hK⟩ := h
  have hrn := hro.1
  refine ⟨Nat.le_of_ble_eq_true rfl, fun C hC => hC _ _ _ _ _ _ ?_⟩
  have outer : ∀ k t z, t + k = 8 → sprR R (carO R f s) 8 ((1 : Int32) <<< (x &&& 31)) = sprR R (carO R f s) k z → C 8 [(0, .ref 0), (1, .int s), (3, .int y), (4, .int z), (5, .int (nI t))] [] (modelW 0 (tk 0 5) (tk 0 6) th tr wh fa ta sz ix so pl nu wd td mk mo tx P D ea pa co S Cc V ba B R L G) 0 0 := by
    intro k
    induction k with
    | zero =>
      intro t z ht he
      have ht : t = 8 := ht
      subst ht
      rw [mcarB, he, sprR] at hK
      refine hC _ _ _ _ _ _ (And.intro (fun _ => And.intro (fun c => ⟨rfl, ?_⟩) (fun c => ⟨rfl, ?_⟩)) (fun c => absurd (show (8 : Int32) ≤ nI 8 by decide) c))
      · rw [bI_f c] at hK; exact hK
      · rw [bI_t c] at hK; exact hK
    | succ k ih =>
      intro t z ht he
      rw [sprR] at he
      have inner : ∀ k2 j z, j + k2 = R.2.2.2.2.2.2.2 → sprR R (carO R f s) 8 ((1 : Int32) <<< (x &&& 31)) = sprR R (carO R f s) k (foldF (sprOne R (carO R f s)) j k2 z) → C 18 [(0, .ref 0), (1, .int s), (3, .int y), (4, .int z), (5, .int (nI t)), (6, .int (nI j))] [] (modelW 0 (tk 0 5) (tk 0 6) th tr wh fa ta sz ix so pl nu wd td mk mo tx P D ea pa co S Cc V ba B R L G) 0 0 := by
        intro k2
        induction k2 with
        | zero =>
          intro j z hj he
          have h9 := ih (t + 1) z (by omega) he
          rw [← nI_1] at h9
          exact hC _ _ _ _ _ _ (And.intro (fun c3 => h9) (fun c3 => absurd (nI_le (by omega) (by omega)) c3))
        | succ k2 ih2 =>
          intro j z hj he
          have hrj : j < R.2.2.2.2.2.2.2 := by omega
          obtain ⟨h1, h2, h3, h4, h5⟩ := rOk_ix hro hrj
          have e0 : 3 * nI j = nI (j * 3) := nI_3m j
          have e : 3 * nI j + R.2.2.2.2.1 (nI j).toNatClampNeg = nI (j * 3 + rpN R j) := by rw [nI_3m, h2, h3, nI_add]
          rw [foldF] at he
          have posts : ∀ m i (b : Bool), i + m = rpN R j → (b && allF (fun k => decide (¬ f k &&& s = 0)) (j * 3 + i) m) = carO R f s j → C 39 [(0, .ref 0), (1, .int s), (3, .int y), (4, .int z), (5, .int (nI t)), (6, .int (nI j)), (7, .int (bI b)), (8, .int (nI (j * 3 + i)))] [] (modelW 0 (tk 0 5) (tk 0 6) th tr wh fa ta sz ix so pl nu wd td mk mo tx P D ea pa co S Cc V ba B R L G) 0 0 := by
            intro m
            induction m with
            | zero =>
              intro i b hi hb
              rw [allF, Bool.and_true] at hb
              have nx : ∀ v, sprOne R (carO R f s) z j = v → C 18 [(0, .ref 0), (1, .int s), (3, .int y), (4, .int v), (5, .int (nI t)), (6, .int (nI j + 1))] [] (modelW 0 (tk 0 5) (tk 0 6) th tr wh fa ta sz ix so pl nu wd td mk mo tx P D ea pa co S Cc V ba B R L G) 0 0 := by
                intro v e
                rw [e] at he
                have h9 := ih2 (j + 1) v (by omega) he
                rw [← nI_1] at h9
                exact h9
              refine hC _ _ _ _ _ _ ⟨h1, And.intro (fun c => ⟨h1, h1, And.intro (fun c2 => nx _ ?_) (fun c2 => And.intro (fun c3 => nx _ ?_) (fun c3 => nx _ ?_))⟩) (fun c => absurd (by rw [e]; exact nI_le (by omega) (by omega)) c)⟩
              · exact if_neg (fun z => by rw [← hb, bI_0.mp c2] at z; exact absurd z.1 (by decide))
              · rw [h2] at c3
                exact if_neg (fun z => z.2 c3)
              · rw [h2] at c3
                rw [h2]
                exact if_pos ⟨by rw [← hb]; exact bI_n0.mp c2, c3⟩
            | succ m ih3 =>
              intro i b hi hb
              rw [allF] at hb
              have hv : vp_in (nI (j * 3 + i)) 48 := vp_in_nI (by omega) (by omega)
              have hc : (nI (j * 3 + i)).toNatClampNeg = j * 3 + i := nI_clamp (by omega)
              have hfi := hf j i hrj (by omega)
              have nx : ∀ b', b' = (b && decide (¬ f (j * 3 + i) &&& s = 0)) → C 39 [(0, .ref 0), (1, .int s), (3, .int y), (4, .int z), (5, .int (nI t)), (6, .int (nI j)), (7, .int (bI b')), (8, .int (nI (j * 3 + i) + 1))] [] (modelW 0 (tk 0 5) (tk 0 6) th tr wh fa ta sz ix so pl nu wd td mk mo tx P D ea pa co S Cc V ba B R L G) 0 0 := by
                intro b' e
                have h9 := ih3 (i + 1) b' (by omega) (by rw [e, Bool.and_assoc, show j * 3 + (i + 1) = j * 3 + i + 1 by omega]; exact hb)
                rw [nI_1]
                exact h9
              refine hC _ _ _ _ _ _ ⟨h1, And.intro (fun c => absurd c (by rw [e]; exact nI_ge (by omega) (by omega))) (fun c => And.intro (fun c2 => nx false ?_) (fun c2 => ⟨hv, And.intro (fun c3 => nx false ?_) (fun c3 => nx true ?_)⟩))⟩
              · rw [bI_0.mp c2, Bool.false_and]
              · rw [hc, hfi] at c3
                rw [decide_eq_false (fun z => z c3), Bool.and_false]
              · rw [hc, hfi] at c3
                rw [decide_eq_true c3, bI_n0.mp c2]; rfl
          have h9 := posts (rpN R j) 0 true (by omega) (by rw [Bool.true_and]; rfl)
          rw [Nat.add_zero, ← e0] at h9
          exact hC _ _ _ _ _ _ (And.intro (fun c => absurd c (nI_ge (by omega) (by omega))) (fun c => h9))
      exact hC _ _ _ _ _ _ (And.intro (fun c => absurd c (nI_ge (b := 8) (by omega) (by omega))) (fun c => inner R.2.2.2.2.2.2.2 0 z (by omega) he))
  exact outer 8 0 _ (by omega) rfl
theorem bits_s : ∀ i : Fin 512, i.val ≠ 0 → (nI i.val &&& (nI i.val - 1)) = nI (i.val &&& (i.val - 1)) ∧ bcI (nI i.val) = bcI (nI (i.val &&& (i.val - 1))) + 1 ∧ (i.val &&& (i.val - 1)) < i.val := by decide +kernel
def tX14_bits : List q_I := [(0, .iconst 0, 1, 0, 0), (1, .istore_n 1, 1, 0, 0), (2, .iload_n 0, 1, 0, 0), (3, .istore_n 2, 1, 0, 0), (4, .iload_n 2, 1, 0, 0), (5, .ifCond .eq 15, 3, 0, 20), (8, .iinc 1 1, 3, 1, 0), (11, .iload_n 2, 1, 0, 0), (12, .iload_n 2, 1, 0, 0), (13, .iconst 1, 1, 1, 0), (14, .isub, 1, 0, 0), (15, .iand, 1, 0, 0), (16, .istore_n 2, 1, 0, 0), (17, .goto (-13), 3, 0, 4), (20, .iload_n 1, 1, 0, 0), (21, .ireturn, 1, 0, 0)]
theorem tX14_bits_ok : (tX14_bits.all (q_okI cX14_bits)) = true := by decide +kernel

abbrev fdX14_bits : List (Nat ⊕ (Nat × Nat)) := []
def spX14_bits : q_P := fun a w K => ∃ (i : Nat), w = [] ∧ a = [.int (nI i)] ∧ i < 512 ∧ K (.inl (some (.int (bcI (nI i))))) []
abbrev csX14_bits : q_S := (1, 99, 0, 3, 0, 0, fdX14_bits, spX14_bits)
def EX14_bits : q_E := (tX14_bits, [(4, [1, 2])], 3, flX14, [], [], [], [], [], [], 0, 0, 0, (some .int), [], [], 0, 0)
theorem okX14_bits (l : Launch) : q_Eok l RX14 cX14_bits EX14_bits := ⟨tX14_bits_ok, flX14_ok, q_nil, q_nil, q_nil, q_nil, q_nil, q_nil, (fun h => absurd h (by decide))⟩
set_option maxRecDepth 100000 in
set_option maxHeartbeats 4000000 in
theorem ctX14_bits (l : Launch) : q_CT l yX14_bits (.code yX14_bits cX14_bits 3 (some .int)) 0 0 0 spX14_bits := by
  refine q_ct_of EX14_bits (by decide +kernel) (okX14_bits l) rfl rfl rfl rfl rfl q_nil (fun ci h => by cases h) rfl ?_
  intro a w K h
  obtain ⟨i, rfl, rfl, hi, hK⟩ := h
  refine ⟨Nat.le_of_ble_eq_true rfl, fun C hC => ?_⟩
  have loop : ∀ m i (c : Int32), i ≤ m → i < 512 → K (.inl (some (.int (c + bcI (nI i))))) [] → C 4 [(1, .int c), (2, .int (nI i))] [] [] 0 0 := by
    intro m
    induction m with
    | zero =>
      intro i c hm hi hK
      have hm : i = 0 := by omega
      subst hm
      have e : c + bcI (nI 0) = c := by rw [show bcI (nI 0) = 0 by decide +kernel]; exact Int32.add_zero c
      rw [e] at hK
      exact hC _ _ _ _ _ _ (And.intro (fun _ => hK) (fun z => absurd rfl z))
    | succ m ih =>
      intro i c hm hi hK
      by_cases h0 : i = 0
      · subst h0
        have e : c + bcI (nI 0) = c := by rw [show bcI (nI 0) = 0 by decide +kernel]; exact Int32.add_zero c
        rw [e] at hK
        exact hC _ _ _ _ _ _ (And.intro (fun _ => hK) (fun z => absurd rfl z))
      · obtain ⟨b1, b2, b3⟩ := bits_s ⟨i, hi⟩ h0
        have b1 : (nI i &&& (nI i - 1)) = nI (i &&& (i - 1)) := b1
        have b2 : bcI (nI i) = bcI (nI (i &&& (i - 1))) + 1 := b2
        have b3 : (i &&& (i - 1)) < i := b3
        have h9 := ih (i &&& (i - 1)) (c + 1) (by omega) (by omega) (by rw [b2] at hK; rw [Int32.add_assoc, Int32.add_comm 1]; exact hK)
        rw [← b1] at h9
        exact hC _ _ _ _ _ _ (And.intro (fun z => absurd z (nI_ne (b := 0) h0 (by omega) (by omega))) (fun _ => h9))
  exact hC _ _ _ _ _ _ (loop i i 0 (Nat.le_refl _) hi (by rw [Int32.zero_add]; exact hK))
theorem bit01 (x : Int32) : x &&& 1 = 0 ∨ x &&& 1 = 1 := by
  have h : (x &&& 1).toBitVec = x.toBitVec &&& 1#32 := rfl
  have h2 : ∀ b : BitVec 32, b &&& 1#32 = 0#32 ∨ b &&& 1#32 = 1#32 := by
    intro b
    have : b &&& 1#32 = if b.getLsbD 0 then 1#32 else 0#32 := by
      apply BitVec.eq_of_getLsbD_eq
      intro i hi
      by_cases hb : b.getLsbD 0 <;> simp [hb, BitVec.getLsbD_one] <;> (by_cases h0 : i = 0 <;> simp_all)
    rw [this]
    split
    · exact Or.inr rfl
    · exact Or.inl rfl
  rcases h2 x.toBitVec with h3 | h3
  · exact Or.inl (Int32.toBitVec_inj.mp (h.trans h3))
  · exact Or.inr (Int32.toBitVec_inj.mp (h.trans h3))
def lmT (coin : Nat → Int32) (c : Nat) (s : Int32 × Int32) (i : Nat) : Bool := decide (s.1 = -1) || (decide (cstF coin (nI i) c < s.2) || (decide (cstF coin (nI i) c = s.2) && decide (bcI (nI i) < bcI s.1)))
def lmOne (coin : Nat → Int32) (c : Nat) (car : Int32 → Bool) (s : Int32 × Int32) (i : Nat) : Int32 × Int32 := if lmT coin c s i && car (nI i) then (nI i, cstF coin (nI i) c) else s
def lmF (coin : Nat → Int32) (c : Nat) (car : Int32 → Bool) : Int32 × Int32 := foldF (lmOne coin c car) 0 (2 ^ c) (-1, 0)
theorem shl_n : ∀ c : Fin 10, (1 : Int32) <<< (nI c.val &&& 31) = nI (2 ^ c.val) := by decide +kernel
