def allF (f : Nat → Bool) : Nat → Nat → Bool
  | _, 0 => true
  | s, n + 1 => f s && allF f (s + 1) n
/-- least, trail, by, settled, postMet, roadOpen -/
abbrev WT : Type := (Nat → Int32) × (Nat → Int32) × (Nat → Int32) × (Nat → Int32) × (Nat → Int32) × (Nat → Int32)
def waysW (o : Nat) (pv : Value) (W : WT) : List q_C := [.inr (10, [pv, .ref (o + 1), .ref (o + 2), .ref (o + 3), .ref (o + 4), .ref (o + 5), .ref (o + 6)]), .inl (1, 8, .inl W.1), .inl (1, 8, .inl W.2.1), .inl (1, 8, .inl W.2.2.1), .inl (3, 8, .inl W.2.2.2.1), .inl (3, 48, .inl W.2.2.2.2.1), .inl (3, 16, .inl W.2.2.2.2.2)]
def openB (P : PT) (L : LT) (R : RT) (p r : Nat) (day : Int32) : Bool := allF (fun k => hasGd P L p (R.2.2.2.2.2.1 k) (R.2.2.2.2.2.2.1 k) day) (r * 3) (rpN R r)
theorem rOk_ix {R : RT} (h : rOk R) {r : Nat} (hr : r < R.2.2.2.2.2.2.2) : vp_in (nI r) 16 ∧ (nI r).toNatClampNeg = r ∧ R.2.2.2.2.1 r = nI (rpN R r) ∧ rpN R r ≤ 3 ∧ r < 16 := by
  obtain ⟨h1, h2⟩ := h
  obtain ⟨h3, h4⟩ := h2 r hr
  exact ⟨vp_in_nI (by omega) (by omega), nI_clamp (by omega), h3, h4, by omega⟩
/-- a place outside: field j of cell i -/
abbrev tk (i j : Nat) : Value := .retAddr (100 + (100 * i + j))
def wayW (P : PT) (R : RT) (L : LT) (m : Int32) : List q_C := [.inr (10, [.ref 1, tk 0 1, tk 0 2, tk 0 3, tk 0 4, tk 0 5, tk 0 6])] ++ (peopleW 1 P ++ ([.inr (0, [tk 8 0, tk 8 1, tk 8 2, tk 8 3, .int m, .ref 9, .ref 17, tk 8 7])] ++ (roadsW 9 R ++ lawsW 17 L)))

def tX10_isOpen : List q_I := [(0, .aload_n 1, 1, 0, 0), (1, .getfield 37, 3, 0, 0), (4, .astore 5, 2, 0, 0), (6, .iconst 0, 1, 0, 0), (7, .istore 6, 2, 0, 0), (9, .iload 6, 2, 0, 0), (11, .aload 5, 2, 0, 0), (13, .getfield 43, 3, 0, 0), (16, .iload_n 3, 1, 0, 0), (17, .iaload, 1, 0, 0), (18, .if_icmp .ge 52, 3, 0, 70), (21, .iload_n 3, 1, 0, 0), (22, .iconst 3, 1, 3, 0), (23, .imul, 1, 0, 0), (24, .iload 6, 2, 0, 0), (26, .iadd, 1, 0, 0), (27, .istore 7, 2, 0, 0), (29, .aload_n 0, 1, 0, 0), (30, .getfield 33, 3, 0, 0), (33, .iload_n 2, 1, 0, 0), (34, .aload 5, 2, 0, 0), (36, .getfield 46, 3, 0, 0), (39, .iload 7, 2, 0, 0), (41, .iaload, 1, 0, 0), (42, .aload 5, 2, 0, 0), (44, .getfield 49, 3, 0, 0), (47, .iload 7, 2, 0, 0), (49, .iaload, 1, 0, 0), (50, .iload 4, 2, 0, 0), (52, .aload_n 1, 1, 0, 0), (53, .getfield 52, 3, 0, 0), (56, .invokevirtual 56, 3, 0, 0), (59, .ifCond .ne 5, 3, 0, 64), (62, .iconst 0, 1, 0, 0), (63, .ireturn, 1, 0, 0), (64, .iinc 6 1, 3, 1, 0), (67, .goto (-58), 3, 0, 9), (70, .iconst 1, 1, 1, 0), (71, .ireturn, 1, 0, 0)]
theorem tX10_isOpen_ok : (tX10_isOpen.all (q_okI cX10_isOpen)) = true := by decide +kernel

abbrev fdX10_isOpen : List (Nat ⊕ (Nat × Nat)) := [.inl 0, .inr (0, 0), .inr (1, 0), .inr (1, 1), .inr (1, 2), .inr (1, 3), .inr (1, 4), .inr (1, 5), .inl 1, .inr (8, 5), .inr (9, 0), .inr (9, 1), .inr (9, 2), .inr (9, 3), .inr (9, 4), .inr (9, 5), .inr (9, 6), .inr (8, 6), .inr (17, 0), .inr (17, 1), .inr (17, 2), .inr (17, 3), .inr (17, 4), .inr (17, 5), .inr (17, 6)]
def spX10_isOpen : q_P := fun a w K => ∃ (P : PT) (R : RT) (L : LT) (p r : Nat) (d m : Int32), w = wayW P R L m ∧ a = [.ref 0, .ref 8, .int (nI p), .int (nI r), .int d] ∧ pOk P ∧ rOk R ∧ L_n L ≤ 24 ∧ p < P.2.2.2.2.2.2 ∧ r < R.2.2.2.2.2.2.2 ∧ K (.inl (some (.int (bI (openB P L R p r d))))) w
abbrev csX10_isOpen : q_S := (5, 10, 3, 8, 0, 0, fdX10_isOpen, spX10_isOpen)
theorem coX10_56 (l : Launch) : q_CO l RX10 56 csX6_hasGood := ⟨yX6_hasGood, cX6_hasGood, (some .boolean), 5, ⟨by decide +kernel, by decide +kernel, by decide +kernel⟩, q_G_i 11 (by decide +kernel) rfl, Or.inl ⟨by decide, rfl, rfl, q_G_i 858 (by decide +kernel) rfl, q_G_i 828 (by decide +kernel) rfl, q_G_i 829 (by decide +kernel) rfl, Or.inl ⟨q_G_i 830 (by decide +kernel) rfl, ctX6_hasGood l⟩⟩⟩
def EX10_isOpen : q_E := (tX10_isOpen, [(9, [0, 1, 2, 3, 4, 5, 6])], 8, flX10, [(56, csX6_hasGood)], [], [], [], [], [], 3, 0, 0, (some .boolean), [], [], 0, 0)
theorem okX10_isOpen (l : Launch) : q_Eok l RX10 cX10_isOpen EX10_isOpen := ⟨tX10_isOpen_ok, flX10_ok, List.forall_mem_cons.mpr ⟨(coX10_56 l), q_nil⟩, q_nil, q_nil, q_nil, q_nil, q_nil, (fun h => absurd h (by decide))⟩
set_option maxRecDepth 100000 in
set_option maxHeartbeats 4000000 in
theorem ctX10_isOpen (l : Launch) : q_CT l yX10_isOpen (.code yX10_isOpen cX10_isOpen 8 (some .boolean)) 3 0 0 spX10_isOpen := by
  refine q_ct_of EX10_isOpen (by decide +kernel) (okX10_isOpen l) rfl rfl rfl rfl rfl q_nil (fun ci h => by cases h) rfl ?_
  intro a w K h
  obtain ⟨P, R, L, p, r, d, m, rfl, rfl, ho, hro, hL, hp, hr, hK⟩ := h
  obtain ⟨h1, h2, h3, h4, h5⟩ := rOk_ix hro hr
  refine ⟨Nat.le_of_ble_eq_true rfl, fun C hC => ?_⟩
  have loop : ∀ n i, i + n = rpN R r → openB P L R p r d = allF (fun k => hasGd P L p (R.2.2.2.2.2.1 k) (R.2.2.2.2.2.2.1 k) d) (r * 3 + i) n → C 9 [(0, .ref 0), (1, .ref 8), (2, .int (nI p)), (3, .int (nI r)), (4, .int d), (5, .ref 9), (6, .int (nI i))] [] (wayW P R L m) 0 0 := by
    intro n
    induction n with
    | zero =>
      intro i hi he
      refine hC _ _ _ _ _ _ ?_
      refine ⟨h1, And.intro (fun c1 => ⟨rfl, ?_⟩) (fun c1 => absurd (by show R.2.2.2.2.1 (nI r).toNatClampNeg ≤ nI i; rw [h2, h3]; exact nI_le (by omega) (by omega)) c1)⟩
      rw [he] at hK; exact hK
    | succ n ih =>
      intro i hi he
      refine hC _ _ _ _ _ _ ?_
      have e2 : nI r * 3 + nI i = nI (r * 3 + i) := by rw [nI_mul3, nI_add]
      have hv2 : vp_in (nI r * 3 + nI i) 48 := by rw [e2]; exact vp_in_nI (by omega) (by omega)
      have hc2 : (nI r * 3 + nI i).toNatClampNeg = r * 3 + i := by rw [e2]; exact nI_clamp (by omega)
      refine ⟨h1, And.intro (fun c1 => absurd (show R.2.2.2.2.1 (nI r).toNatClampNeg ≤ nI i from c1) (by rw [h2, h3]; exact nI_ge (by omega) (by omega))) (fun c1 => ⟨hv2, hv2, ?_⟩)⟩
      refine ⟨P, L, p, _, _, _, rfl, rfl, ho, hL, hp, And.intro (fun c2 => ?_) (fun c2 => ⟨rfl, ?_⟩)⟩
      · have c2 := bI_n0.mp c2
        rw [hc2] at c2
        have h9 := ih (i + 1) (by omega) (by rw [he, allF, c2, Bool.true_and, Nat.add_assoc])
        rw [← nI_1] at h9
        exact h9
      · have c2 := bI_0.mp c2
        rw [hc2] at c2
        rw [he, allF, c2] at hK; exact hK
  exact hC _ _ _ _ _ _ (loop (rpN R r) 0 (by omega) rfl)
def opnB (P : PT) (L : LT) (R : RT) (p r : Nat) (day : Int32) : Int32 := foldF (fun x k => mnI x (mnI (chgF L day (R.2.2.2.2.2.2.1 k) (R.2.2.2.2.2.1 k) (L_n L)) (begB P day p (R.2.2.2.2.2.1 k)))) (r * 3) (rpN R r) 1000000
def tX10_openingBehind : List q_I := [(0, .aload_n 1, 1, 0, 0), (1, .getfield 37, 3, 0, 0), (4, .astore 5, 2, 0, 0), (6, .ldc 92, 2, 0, 0), (8, .istore 6, 2, 0, 0), (10, .iconst 0, 1, 0, 0), (11, .istore 7, 2, 0, 0), (13, .iload 7, 2, 0, 0), (15, .aload 5, 2, 0, 0), (17, .getfield 43, 3, 0, 0), (20, .iload_n 3, 1, 0, 0), (21, .iaload, 1, 0, 0), (22, .if_icmp .ge 78, 3, 0, 100), (25, .iload_n 3, 1, 0, 0), (26, .iconst 3, 1, 3, 0), (27, .imul, 1, 0, 0), (28, .iload 7, 2, 0, 0), (30, .iadd, 1, 0, 0), (31, .istore 8, 2, 0, 0), (33, .aload_n 1, 1, 0, 0), (34, .getfield 52, 3, 0, 0), (37, .iload 4, 2, 0, 0), (39, .aload 5, 2, 0, 0), (41, .getfield 49, 3, 0, 0), (44, .iload 8, 2, 0, 0), (46, .iaload, 1, 0, 0), (47, .aload 5, 2, 0, 0), (49, .getfield 46, 3, 0, 0), (52, .iload 8, 2, 0, 0), (54, .iaload, 1, 0, 0), (55, .invokevirtual 103, 3, 0, 0), (58, .istore 9, 2, 0, 0), (60, .aload_n 0, 1, 0, 0), (61, .getfield 33, 3, 0, 0), (64, .iload 4, 2, 0, 0), (66, .iload_n 2, 1, 0, 0), (67, .aload 5, 2, 0, 0), (69, .getfield 46, 3, 0, 0), (72, .iload 8, 2, 0, 0), (74, .iaload, 1, 0, 0), (75, .invokevirtual 109, 3, 0, 0), (78, .istore 10, 2, 0, 0), (80, .iload 6, 2, 0, 0), (82, .iload 9, 2, 0, 0), (84, .iload 10, 2, 0, 0), (86, .invokestatic 112, 3, 0, 0), (89, .invokestatic 112, 3, 0, 0), (92, .istore 6, 2, 0, 0), (94, .iinc 7 1, 3, 1, 0), (97, .goto (-84), 3, 0, 13), (100, .iload 6, 2, 0, 0), (102, .ireturn, 1, 0, 0)]
theorem tX10_openingBehind_ok : (tX10_openingBehind.all (q_okI cX10_openingBehind)) = true := by decide +kernel

abbrev fdX10_openingBehind : List (Nat ⊕ (Nat × Nat)) := [.inl 0, .inr (0, 0), .inr (1, 0), .inr (1, 1), .inr (1, 2), .inr (1, 3), .inr (1, 4), .inr (1, 5), .inl 1, .inr (8, 5), .inr (9, 0), .inr (9, 1), .inr (9, 2), .inr (9, 3), .inr (9, 4), .inr (9, 5), .inr (9, 6), .inr (8, 6), .inr (17, 0), .inr (17, 1), .inr (17, 2), .inr (17, 3), .inr (17, 4), .inr (17, 5), .inr (17, 6)]
def spX10_openingBehind : q_P := fun a w K => ∃ (P : PT) (R : RT) (L : LT) (p r : Nat) (d m : Int32), w = wayW P R L m ∧ a = [.ref 0, .ref 8, .int (nI p), .int (nI r), .int d] ∧ pOk P ∧ rOk R ∧ L_n L ≤ 24 ∧ p < P.2.2.2.2.2.2 ∧ r < R.2.2.2.2.2.2.2 ∧ K (.inl (some (.int (opnB P L R p r d)))) w
abbrev csX10_openingBehind : q_S := (5, 10, 2, 11, 0, 0, fdX10_openingBehind, spX10_openingBehind)
theorem coX10_103 (l : Launch) : q_CO l RX10 103 csX3_changeBehind := ⟨yX3_changeBehind, cX3_changeBehind, (some .int), 3, ⟨by decide +kernel, by decide +kernel, by decide +kernel⟩, q_G_i 4 (by decide +kernel) rfl, Or.inl ⟨by decide, rfl, rfl, q_G_i 893 (by decide +kernel) rfl, q_G_i 894 (by decide +kernel) rfl, q_G_i 895 (by decide +kernel) rfl, Or.inl ⟨q_G_i 896 (by decide +kernel) rfl, ctX3_changeBehind l⟩⟩⟩
theorem coX10_109 (l : Launch) : q_CO l RX10 109 csX6_beginningBehind := ⟨yX6_beginningBehind, cX6_beginningBehind, (some .int), 3, ⟨by decide +kernel, by decide +kernel, by decide +kernel⟩, q_G_i 11 (by decide +kernel) rfl, Or.inl ⟨by decide, rfl, rfl, q_G_i 901 (by decide +kernel) rfl, q_G_i 902 (by decide +kernel) rfl, q_G_i 903 (by decide +kernel) rfl, Or.inl ⟨q_G_i 904 (by decide +kernel) rfl, ctX6_beginningBehind l⟩⟩⟩
def EX10_openingBehind : q_E := (tX10_openingBehind, [(13, [0, 1, 2, 3, 4, 5, 6, 7])], 11, flX10, [(103, csX3_changeBehind), (109, csX6_beginningBehind)], [], [(92, 1000000)], [], [], [(112, 2)], 2, 0, 0, (some .int), [], [], 0, 0)
theorem okX10_openingBehind (l : Launch) : q_Eok l RX10 cX10_openingBehind EX10_openingBehind := ⟨tX10_openingBehind_ok, flX10_ok, List.forall_mem_cons.mpr ⟨(coX10_103 l), List.forall_mem_cons.mpr ⟨(coX10_109 l), q_nil⟩⟩, q_nil, List.forall_mem_cons.mpr ⟨q_G_i 875 (by decide +kernel) rfl, q_nil⟩, q_nil, List.forall_mem_cons.mpr ⟨Or.inr (Or.inr ⟨rfl, q_G_i 907 (by decide +kernel) rfl⟩), q_nil⟩, q_nil, (fun h => absurd h (by decide))⟩
set_option maxRecDepth 100000 in
set_option maxHeartbeats 4000000 in
theorem ctX10_openingBehind (l : Launch) : q_CT l yX10_openingBehind (.code yX10_openingBehind cX10_openingBehind 11 (some .int)) 2 0 0 spX10_openingBehind := by
  refine q_ct_of EX10_openingBehind (by decide +kernel) (okX10_openingBehind l) rfl rfl rfl rfl rfl q_nil (fun ci h => by cases h) rfl ?_
  intro a w K h
  obtain ⟨P, R, L, p, r, d, m, rfl, rfl, ho, hro, hL, hp, hr, hK⟩ := h
  obtain ⟨h1, h2, h3, h4, h5⟩ := rOk_ix hro hr
  refine ⟨Nat.le_of_ble_eq_true rfl, fun C hC => ?_⟩
  have loop : ∀ n i x, i + n = rpN R r → opnB P L R p r d = foldF (fun x k => mnI x (mnI (chgF L d (R.2.2.2.2.2.2.1 k) (R.2.2.2.2.2.1 k) (L_n L)) (begB P d p (R.2.2.2.2.2.1 k)))) (r * 3 + i) n x → C 13 [(0, .ref 0), (1, .ref 8), (2, .int (nI p)), (3, .int (nI r)), (4, .int d), (5, .ref 9), (6, .int x), (7, .int (nI i))] [] (wayW P R L m) 0 0 := by
    intro n
    induction n with
    | zero =>
      intro i x hi he
      refine hC _ _ _ _ _ _ ?_
      refine ⟨h1, And.intro (fun c1 => ?_) (fun c1 => absurd (by show R.2.2.2.2.1 (nI r).toNatClampNeg ≤ nI i; rw [h2, h3]; exact nI_le (by omega) (by omega)) c1)⟩
      rw [he] at hK; exact hK
    | succ n ih =>
      intro i x hi he
      refine hC _ _ _ _ _ _ ?_
      have e2 : nI r * 3 + nI i = nI (r * 3 + i) := by rw [nI_mul3, nI_add]
      have hv2 : vp_in (nI r * 3 + nI i) 48 := by rw [e2]; exact vp_in_nI (by omega) (by omega)
      have hc2 : (nI r * 3 + nI i).toNatClampNeg = r * 3 + i := by rw [e2]; exact nI_clamp (by omega)
      refine ⟨h1, And.intro (fun c1 => absurd (show R.2.2.2.2.1 (nI r).toNatClampNeg ≤ nI i from c1) (by rw [h2, h3]; exact nI_ge (by omega) (by omega))) (fun c1 => ⟨hv2, hv2, ?_⟩)⟩
      refine ⟨L, _, _, _, rfl, rfl, hL, hv2, P, _, p, _, rfl, rfl, ho, hp, ?_⟩
      have h9 := ih (i + 1) (mnI x (mnI (chgF L d (R.2.2.2.2.2.2.1 (r * 3 + i)) (R.2.2.2.2.2.1 (r * 3 + i)) (L_n L)) (begB P d p (R.2.2.2.2.2.1 (r * 3 + i))))) (by omega) (by rw [he, foldF, Nat.add_assoc])
      rw [← nI_1, ← hc2] at h9
      exact h9
  exact hC _ _ _ _ _ _ (loop (rpN R r) 0 _ (by omega) rfl)
def comeF (P : PT) (L : LT) (R : RT) (p r : Nat) : Nat → Int32 → Int32
  | 0, _ => 1000000
  | n + 1, day => if 999 < day then 1000000 else if openB P L R p r day then day + R.2.2.1 r else comeF P L R p r n (opnB P L R p r day)
def tX10_comingDay : List q_I := [(0, .iload 4, 2, 0, 0), (2, .istore 5, 2, 0, 0), (4, .iconst 0, 1, 0, 0), (5, .istore 6, 2, 0, 0), (7, .iload 6, 2, 0, 0), (9, .sipush 999, 3, 999, 0), (12, .if_icmp .gt 53, 3, 0, 65), (15, .iload 5, 2, 0, 0), (17, .sipush 999, 3, 999, 0), (20, .if_icmp .gt 45, 3, 0, 65), (23, .aload_n 0, 1, 0, 0), (24, .aload_n 1, 1, 0, 0), (25, .iload_n 2, 1, 0, 0), (26, .iload_n 3, 1, 0, 0), (27, .iload 5, 2, 0, 0), (29, .invokevirtual 93, 3, 0, 0), (32, .ifCond .eq 16, 3, 0, 48), (35, .iload 5, 2, 0, 0), (37, .aload_n 1, 1, 0, 0), (38, .getfield 37, 3, 0, 0), (41, .getfield 97, 3, 0, 0), (44, .iload_n 3, 1, 0, 0), (45, .iaload, 1, 0, 0), (46, .iadd, 1, 0, 0), (47, .ireturn, 1, 0, 0), (48, .aload_n 0, 1, 0, 0), (49, .aload_n 1, 1, 0, 0), (50, .iload_n 2, 1, 0, 0), (51, .iload_n 3, 1, 0, 0), (52, .iload 5, 2, 0, 0), (54, .invokevirtual 100, 3, 0, 0), (57, .istore 5, 2, 0, 0), (59, .iinc 6 1, 3, 1, 0), (62, .goto (-55), 3, 0, 7), (65, .ldc 92, 2, 0, 0), (67, .ireturn, 1, 0, 0)]
theorem tX10_comingDay_ok : (tX10_comingDay.all (q_okI cX10_comingDay)) = true := by decide +kernel

abbrev fdX10_comingDay : List (Nat ⊕ (Nat × Nat)) := [.inl 0, .inr (0, 0), .inr (1, 0), .inr (1, 1), .inr (1, 2), .inr (1, 3), .inr (1, 4), .inr (1, 5), .inl 1, .inr (8, 5), .inr (9, 0), .inr (9, 1), .inr (9, 2), .inr (9, 3), .inr (9, 4), .inr (9, 5), .inr (9, 6), .inr (8, 6), .inr (17, 0), .inr (17, 1), .inr (17, 2), .inr (17, 3), .inr (17, 4), .inr (17, 5), .inr (17, 6)]
def spX10_comingDay : q_P := fun a w K => ∃ (P : PT) (R : RT) (L : LT) (p r : Nat) (d m : Int32), w = wayW P R L m ∧ a = [.ref 0, .ref 8, .int (nI p), .int (nI r), .int d] ∧ pOk P ∧ rOk R ∧ L_n L ≤ 24 ∧ p < P.2.2.2.2.2.2 ∧ r < R.2.2.2.2.2.2.2 ∧ K (.inl (some (.int (comeF P L R p r 1000 d)))) w
abbrev csX10_comingDay : q_S := (5, 10, 4, 7, 0, 0, fdX10_comingDay, spX10_comingDay)
theorem coX10_93 (l : Launch) : q_CO l RX10 93 csX10_isOpen := ⟨yX10_isOpen, cX10_isOpen, (some .boolean), 4, ⟨by decide +kernel, by decide +kernel, by decide +kernel⟩, q_G_i 12 (by decide +kernel) rfl, Or.inl ⟨by decide, rfl, rfl, q_G_i 888 (by decide +kernel) rfl, q_G_i 855 (by decide +kernel) rfl, q_G_i 856 (by decide +kernel) rfl, Or.inl ⟨q_G_i 857 (by decide +kernel) rfl, ctX10_isOpen l⟩⟩⟩
theorem coX10_100 (l : Launch) : q_CO l RX10 100 csX10_openingBehind := ⟨yX10_openingBehind, cX10_openingBehind, (some .int), 4, ⟨by decide +kernel, by decide +kernel, by decide +kernel⟩, q_G_i 12 (by decide +kernel) rfl, Or.inl ⟨by decide, rfl, rfl, q_G_i 889 (by decide +kernel) rfl, q_G_i 891 (by decide +kernel) rfl, q_G_s (n := 7) 29 (by decide +kernel), Or.inl ⟨q_G_i 892 (by decide +kernel) rfl, ctX10_openingBehind l⟩⟩⟩
def EX10_comingDay : q_E := (tX10_comingDay, [(7, [0, 1, 2, 3, 5, 6])], 7, flX10, [(93, csX10_isOpen), (100, csX10_openingBehind)], [], [(92, 1000000)], [], [], [], 4, 0, 0, (some .int), [], [], 0, 0)
theorem okX10_comingDay (l : Launch) : q_Eok l RX10 cX10_comingDay EX10_comingDay := ⟨tX10_comingDay_ok, flX10_ok, List.forall_mem_cons.mpr ⟨(coX10_93 l), List.forall_mem_cons.mpr ⟨(coX10_100 l), q_nil⟩⟩, q_nil, List.forall_mem_cons.mpr ⟨q_G_i 875 (by decide +kernel) rfl, q_nil⟩, q_nil, q_nil, q_nil, (fun h => absurd h (by decide))⟩
set_option maxRecDepth 100000 in
set_option maxHeartbeats 4000000 in
theorem ctX10_comingDay (l : Launch) : q_CT l yX10_comingDay (.code yX10_comingDay cX10_comingDay 7 (some .int)) 4 0 0 spX10_comingDay := by
  refine q_ct_of EX10_comingDay (by decide +kernel) (okX10_comingDay l) rfl rfl rfl rfl rfl q_nil (fun ci h => by cases h) rfl ?_
  intro a w K h
  obtain ⟨P, R, L, p, r, d, m, rfl, rfl, ho, hro, hL, hp, hr, hK⟩ := h
  obtain ⟨h1, h2, h3, h4, h5⟩ := rOk_ix hro hr
  refine ⟨Nat.le_of_ble_eq_true rfl, fun C hC => ?_⟩
  have loop : ∀ n i x, i + n = 1000 → comeF P L R p r 1000 d = comeF P L R p r n x → C 7 [(0, .ref 0), (1, .ref 8), (2, .int (nI p)), (3, .int (nI r)), (5, .int x), (6, .int (nI i))] [] (wayW P R L m) 0 0 := by
    intro n
    induction n with
    | zero =>
      intro i x hi he
      refine hC _ _ _ _ _ _ ?_
      refine And.intro (fun c1 => ?_) (fun c1 => absurd (nI_lt (a := 999) (by omega) (by omega)) c1)
      rw [he] at hK; exact hK
    | succ n ih =>
      intro i x hi he
      refine hC _ _ _ _ _ _ ?_
      refine And.intro (fun c1 => absurd c1 (nI_nlt (b := i) (a := 999) (by omega) (by omega))) (fun c1 => And.intro (fun c2 => ?_) (fun c2 => ?_))
      · rw [he, comeF, if_pos c2] at hK; exact hK
      · refine ⟨P, R, L, p, r, _, _, rfl, rfl, ho, hro, hL, hp, hr, And.intro (fun c3 => ?_) (fun c3 => ⟨h1, ?_⟩)⟩
        · refine ⟨P, R, L, p, r, _, _, rfl, rfl, ho, hro, hL, hp, hr, ?_⟩
          have h9 := ih (i + 1) (opnB P L R p r x) (by omega) (by rw [he, comeF, if_neg c2, if_neg (by rw [bI_0.mp c3]; decide)])
          rw [← nI_1] at h9
          exact h9
        · rw [he, comeF, if_neg c2, if_pos (bI_n0.mp c3)] at hK
          show K (.inl (some (.int _))) _
          rw [h2]; exact hK
  exact hC _ _ _ _ _ _ (loop 1000 0 d (by omega) rfl)
def waysBegin (W : WT) (x : Nat) (v : Int32) : WT := (upd (zf 1000000 W.1 8) x v, W.2.1, zf (-1) W.2.2.1 8, zf 0 W.2.2.2.1 8, W.2.2.2.2.1, W.2.2.2.2.2)
def tX10_begin : List q_I := [(0, .iconst 0, 1, 0, 0), (1, .istore_n 3, 1, 0, 0), (2, .iload_n 3, 1, 0, 0), (3, .bipush 8, 2, 8, 0), (5, .if_icmp .ge 31, 3, 0, 36), (8, .aload_n 0, 1, 0, 0), (9, .getfield 11, 3, 0, 0), (12, .iload_n 3, 1, 0, 0), (13, .ldc 92, 2, 0, 0), (15, .iastore, 1, 0, 0), (16, .aload_n 0, 1, 0, 0), (17, .getfield 18, 3, 0, 0), (20, .iload_n 3, 1, 0, 0), (21, .iconst (-1), 1, (-1), 0), (22, .iastore, 1, 0, 0), (23, .aload_n 0, 1, 0, 0), (24, .getfield 21, 3, 0, 0), (27, .iload_n 3, 1, 0, 0), (28, .iconst 0, 1, 0, 0), (29, .bastore, 1, 0, 0), (30, .iinc 3 1, 3, 1, 0), (33, .goto (-31), 3, 0, 2), (36, .aload_n 0, 1, 0, 0), (37, .getfield 11, 3, 0, 0), (40, .iload_n 1, 1, 0, 0), (41, .iload_n 2, 1, 0, 0), (42, .iastore, 1, 0, 0), (43, .return_, 1, 0, 0)]
theorem tX10_begin_ok : (tX10_begin.all (q_okI cX10_begin)) = true := by decide +kernel

abbrev fdX10_begin : List (Nat ⊕ (Nat × Nat)) := [.inl 0, .inr (0, 1), .inr (0, 2), .inr (0, 3), .inr (0, 4), .inr (0, 5), .inr (0, 6)]
def spX10_begin : q_P := fun a w K => ∃ (W : WT) (pv : Value) (x : Nat) (v : Int32), w = waysW 0 pv W ∧ a = [.ref 0, .int (nI x), .int v] ∧ x < 8 ∧ K (.inl none) (waysW 0 pv (waysBegin W x v))
abbrev csX10_begin : q_S := (3, 10, 0, 4, 0, 0, fdX10_begin, spX10_begin)
def EX10_begin : q_E := (tX10_begin, [(2, [0, 1, 2, 3])], 4, flX10, [], [], [(92, 1000000)], [], [], [], 0, 0, 0, none, [], [], 0, 0)
theorem okX10_begin (l : Launch) : q_Eok l RX10 cX10_begin EX10_begin := ⟨tX10_begin_ok, flX10_ok, q_nil, q_nil, List.forall_mem_cons.mpr ⟨q_G_i 875 (by decide +kernel) rfl, q_nil⟩, q_nil, q_nil, q_nil, (fun h => absurd h (by decide))⟩
set_option maxRecDepth 100000 in
set_option maxHeartbeats 4000000 in
theorem ctX10_begin (l : Launch) : q_CT l yX10_begin (.code yX10_begin cX10_begin 4 none) 0 0 0 spX10_begin := by
  refine q_ct_of EX10_begin (by decide +kernel) (okX10_begin l) rfl rfl rfl rfl rfl q_nil (fun ci h => by cases h) rfl ?_
  intro a w K h
  obtain ⟨W, pv, x, v, rfl, rfl, hx, hK⟩ := h
  refine ⟨Nat.le_of_ble_eq_true rfl, fun C hC => ?_⟩
  have loop : ∀ n i, i + n = 8 → C 2 [(0, .ref 0), (1, .int (nI x)), (2, .int v), (3, .int (nI i))] [] (waysW 0 pv (zf 1000000 W.1 i, W.2.1, zf (-1) W.2.2.1 i, zf 0 W.2.2.2.1 i, W.2.2.2.2.1, W.2.2.2.2.2)) 0 0 := by
    intro n
    induction n with
    | zero =>
      intro i hi
      have hi : i = 8 := by omega
      subst hi
      refine hC _ _ _ _ _ _ ?_
      refine And.intro (fun c1 => ⟨vp_in_nI hx (by omega), ?_⟩) (fun c1 => absurd (Int32.le_refl _) c1)
      show K (.inl none) _
      rw [nI_clamp (by omega)]; exact hK
    | succ n ih =>
      intro i hi
      have hv : vp_in (nI i) 8 := vp_in_nI (by omega) (by omega)
      have hc : (nI i).toNatClampNeg = i := nI_clamp (by omega)
      refine hC _ _ _ _ _ _ ?_
      refine And.intro (fun c1 => absurd c1 (nI_ge (b := 8) (by omega) (by omega))) (fun c1 => ⟨hv, hv, hv, ?_⟩)
      have h9 := ih (i + 1) (by omega)
      rw [← nI_1, ← zf_s, ← zf_s, ← zf_s] at h9
      have e1 : ∀ (f : Nat → Int32) (z : Int32), upd f i z = upd f (nI i).toNatClampNeg z := fun f z => by rw [hc]
      rw [e1, e1, e1] at h9
      exact h9
  refine hC _ _ _ _ _ _ ?_
  have h9 := loop 8 0 rfl
  rw [zf_0, zf_0, zf_0] at h9
  exact h9
def sooF (st le : Nat → Int32) : Nat → Int32 × Int32
  | 0 => (-1, 1000000)
  | i + 1 => if st i = 0 ∧ le i < (sooF st le i).2 then (nI i, le i) else sooF st le i
def tX10_soonestUnsettled : List q_I := [(0, .iconst (-1), 1, (-1), 0), (1, .istore_n 2, 1, 0, 0), (2, .ldc 92, 2, 0, 0), (4, .istore_n 3, 1, 0, 0), (5, .iconst 0, 1, 0, 0), (6, .istore 4, 2, 0, 0), (8, .iload 4, 2, 0, 0), (10, .iload_n 1, 1, 0, 0), (11, .if_icmp .ge 41, 3, 0, 52), (14, .aload_n 0, 1, 0, 0), (15, .getfield 21, 3, 0, 0), (18, .iload 4, 2, 0, 0), (20, .baload, 1, 0, 0), (21, .ifCond .ne 25, 3, 0, 46), (24, .aload_n 0, 1, 0, 0), (25, .getfield 11, 3, 0, 0), (28, .iload 4, 2, 0, 0), (30, .iaload, 1, 0, 0), (31, .iload_n 3, 1, 0, 0), (32, .if_icmp .ge 14, 3, 0, 46), (35, .iload 4, 2, 0, 0), (37, .istore_n 2, 1, 0, 0), (38, .aload_n 0, 1, 0, 0), (39, .getfield 11, 3, 0, 0), (42, .iload 4, 2, 0, 0), (44, .iaload, 1, 0, 0), (45, .istore_n 3, 1, 0, 0), (46, .iinc 4 1, 3, 1, 0), (49, .goto (-41), 3, 0, 8), (52, .iload_n 2, 1, 0, 0), (53, .ireturn, 1, 0, 0)]
theorem tX10_soonestUnsettled_ok : (tX10_soonestUnsettled.all (q_okI cX10_soonestUnsettled)) = true := by decide +kernel

abbrev fdX10_soonestUnsettled : List (Nat ⊕ (Nat × Nat)) := [.inl 0, .inr (0, 1), .inr (0, 2), .inr (0, 3), .inr (0, 4), .inr (0, 5), .inr (0, 6)]
def spX10_soonestUnsettled : q_P := fun a w K => ∃ (W : WT) (pv : Value) (n : Nat), w = waysW 0 pv W ∧ a = [.ref 0, .int (nI n)] ∧ n ≤ 8 ∧ K (.inl (some (.int (sooF W.2.2.2.1 W.1 n).1))) (waysW 0 pv W)
abbrev csX10_soonestUnsettled : q_S := (2, 10, 0, 5, 0, 0, fdX10_soonestUnsettled, spX10_soonestUnsettled)
def EX10_soonestUnsettled : q_E := (tX10_soonestUnsettled, [(8, [0, 1, 2, 3, 4])], 5, flX10, [], [], [(92, 1000000)], [], [], [], 0, 0, 0, (some .int), [], [], 0, 0)
theorem okX10_soonestUnsettled (l : Launch) : q_Eok l RX10 cX10_soonestUnsettled EX10_soonestUnsettled := ⟨tX10_soonestUnsettled_ok, flX10_ok, q_nil, q_nil, List.forall_mem_cons.mpr ⟨q_G_i 875 (by decide +kernel) rfl, q_nil⟩, q_nil, q_nil, q_nil, (fun h => absurd h (by decide))⟩
set_option maxRecDepth 100000 in
set_option maxHeartbeats 4000000 in
theorem ctX10_soonestUnsettled (l : Launch) : q_CT l yX10_soonestUnsettled (.code yX10_soonestUnsettled cX10_soonestUnsettled 5 (some .int)) 0 0 0 spX10_soonestUnsettled := by
  refine q_ct_of EX10_soonestUnsettled (by decide +kernel) (okX10_soonestUnsettled l) rfl rfl rfl rfl rfl q_nil (fun ci h => by cases h) rfl ?_
  intro a w K h
  obtain ⟨W, pv, n, rfl, rfl, hn, hK⟩ := h
  refine ⟨Nat.le_of_ble_eq_true rfl, fun C hC => ?_⟩
  have loop : ∀ k i, i + k = n → C 8 [(0, .ref 0), (1, .int (nI n)), (2, .int (sooF W.2.2.2.1 W.1 i).1), (3, .int (sooF W.2.2.2.1 W.1 i).2), (4, .int (nI i))] [] (waysW 0 pv W) 0 0 := by
    intro k
    induction k with
    | zero =>
      intro i hi
      have hi : i = n := by omega
      subst hi
      refine hC _ _ _ _ _ _ ?_
      exact And.intro (fun c1 => hK) (fun c1 => absurd (Int32.le_refl _) c1)
    | succ k ih =>
      intro i hi
      have hv : vp_in (nI i) 8 := vp_in_nI (by omega) (by omega)
      have hc : (nI i).toNatClampNeg = i := nI_clamp (by omega)
      have h9 := ih (i + 1) (by omega)
      rw [← nI_1] at h9
      refine hC _ _ _ _ _ _ ?_
      refine And.intro (fun c1 => absurd c1 (nI_ge (by omega) (by omega))) (fun c1 => ⟨hv, And.intro (fun c2 => ?_) (fun c2 => ⟨hv, And.intro (fun c3 => ?_) (fun c3 => ⟨hv, ?_⟩)⟩)⟩)
      · have c2 : ¬ W.2.2.2.1 (nI i).toNatClampNeg = 0 := c2
        rw [hc] at c2
        rw [sooF, if_neg (fun z => c2 z.1)] at h9
        exact h9
      · have c3 : (sooF W.2.2.2.1 W.1 i).2 ≤ W.1 (nI i).toNatClampNeg := c3
        rw [hc] at c3
        rw [sooF, if_neg (fun z => Int32.not_le.mpr z.2 c3)] at h9
        exact h9
      · have c2 : W.2.2.2.1 (nI i).toNatClampNeg = 0 := c2
        have c3 : ¬ (sooF W.2.2.2.1 W.1 i).2 ≤ W.1 (nI i).toNatClampNeg := c3
        rw [hc] at c2 c3
        rw [sooF, if_pos ⟨c2, Int32.not_le.mp c3⟩, ← hc] at h9
        rw [hc] at h9
        have e1 : W.1 i = W.1 (nI i).toNatClampNeg := by rw [hc]
        rw [e1] at h9
        exact h9
  exact hC _ _ _ _ _ _ (loop n 0 (by omega))
def offT (W : WT) (x : Nat) (r d : Int32) : Bool := decide (d < W.1 x) || (decide (d = W.1 x) && (decide (¬ d = 1000000) && decide (r < W.2.2.1 x)))
def offer (W : WT) (x : Nat) (r d : Int32) : WT := if offT W x r d then (upd W.1 x d, W.2.1, upd W.2.2.1 x r, W.2.2.2.1, W.2.2.2.2.1, W.2.2.2.2.2) else W
def tX10_offerDay : List q_I := [(0, .iload_n 3, 1, 0, 0), (1, .aload_n 0, 1, 0, 0), (2, .getfield 11, 3, 0, 0), (5, .iload_n 1, 1, 0, 0), (6, .iaload, 1, 0, 0), (7, .if_icmp .lt 29, 3, 0, 36), (10, .iload_n 3, 1, 0, 0), (11, .aload_n 0, 1, 0, 0), (12, .getfield 11, 3, 0, 0), (15, .iload_n 1, 1, 0, 0), (16, .iaload, 1, 0, 0), (17, .if_icmp .ne 33, 3, 0, 50), (20, .iload_n 3, 1, 0, 0), (21, .ldc 92, 2, 0, 0), (23, .if_icmp .eq 27, 3, 0, 50), (26, .iload_n 2, 1, 0, 0), (27, .aload_n 0, 1, 0, 0), (28, .getfield 18, 3, 0, 0), (31, .iload_n 1, 1, 0, 0), (32, .iaload, 1, 0, 0), (33, .if_icmp .ge 17, 3, 0, 50), (36, .aload_n 0, 1, 0, 0), (37, .getfield 11, 3, 0, 0), (40, .iload_n 1, 1, 0, 0), (41, .iload_n 3, 1, 0, 0), (42, .iastore, 1, 0, 0), (43, .aload_n 0, 1, 0, 0), (44, .getfield 18, 3, 0, 0), (47, .iload_n 1, 1, 0, 0), (48, .iload_n 2, 1, 0, 0), (49, .iastore, 1, 0, 0), (50, .return_, 1, 0, 0)]
theorem tX10_offerDay_ok : (tX10_offerDay.all (q_okI cX10_offerDay)) = true := by decide +kernel

abbrev fdX10_offerDay : List (Nat ⊕ (Nat × Nat)) := [.inl 0, .inr (0, 1), .inr (0, 2), .inr (0, 3), .inr (0, 4), .inr (0, 5), .inr (0, 6)]
def spX10_offerDay : q_P := fun a w K => ∃ (W : WT) (pv : Value) (x : Nat) (r d : Int32), w = waysW 0 pv W ∧ a = [.ref 0, .int (nI x), .int r, .int d] ∧ x < 8 ∧ K (.inl none) (waysW 0 pv (offer W x r d))
abbrev csX10_offerDay : q_S := (4, 10, 0, 4, 0, 0, fdX10_offerDay, spX10_offerDay)
def EX10_offerDay : q_E := (tX10_offerDay, [], 4, flX10, [], [], [(92, 1000000)], [], [], [], 0, 0, 0, none, [], [], 0, 0)
theorem okX10_offerDay (l : Launch) : q_Eok l RX10 cX10_offerDay EX10_offerDay := ⟨tX10_offerDay_ok, flX10_ok, q_nil, q_nil, List.forall_mem_cons.mpr ⟨q_G_i 875 (by decide +kernel) rfl, q_nil⟩, q_nil, q_nil, q_nil, (fun h => absurd h (by decide))⟩
set_option maxRecDepth 100000 in
set_option maxHeartbeats 4000000 in
theorem ctX10_offerDay (l : Launch) : q_CT l yX10_offerDay (.code yX10_offerDay cX10_offerDay 4 none) 0 0 0 spX10_offerDay := by
  refine q_ct_of EX10_offerDay (by decide +kernel) (okX10_offerDay l) rfl rfl rfl rfl rfl q_nil (fun ci h => by cases h) rfl ?_
  intro a w K h
  obtain ⟨W, pv, x, r, d, rfl, rfl, hx, hK⟩ := h
  refine ⟨Nat.le_of_ble_eq_true rfl, fun C hC => hC _ _ _ _ _ _ ?_⟩
  have hv : vp_in (nI x) 8 := vp_in_nI hx (by omega)
  have hc : (nI x).toNatClampNeg = x := nI_clamp (by omega)
  have yes : offT W x r d = true → K (.inl none) (waysW 0 pv (upd W.1 (nI x).toNatClampNeg d, W.2.1, upd W.2.2.1 (nI x).toNatClampNeg r, W.2.2.2.1, W.2.2.2.2.1, W.2.2.2.2.2)) := by
    intro h
    rw [offer, if_pos h] at hK
    rw [hc]; exact hK
  have no : offT W x r d = false → K (.inl none) (waysW 0 pv W) := by
    intro h
    rw [offer, h] at hK
    exact hK
  refine ⟨hv, And.intro (fun c => ⟨hv, hv, yes ?_⟩) (fun c => ⟨hv, And.intro (fun c2 => no ?_) (fun c2 => And.intro (fun c3 => no ?_) (fun c3 => ⟨hv, And.intro (fun c4 => no ?_) (fun c4 => ⟨hv, hv, yes ?_⟩)⟩))⟩)⟩
  · have c : d < W.1 (nI x).toNatClampNeg := c
    rw [hc] at c
    simp only [offT, decide_eq_true c, Bool.true_or]
  · have c : ¬ d < W.1 (nI x).toNatClampNeg := c
    have c2 : ¬ d = W.1 (nI x).toNatClampNeg := c2
    rw [hc] at c c2
    simp only [offT, decide_eq_false c, decide_eq_false c2, Bool.false_and, Bool.or_self]
  · have c : ¬ d < W.1 (nI x).toNatClampNeg := c
    have c3 : d = 1000000 := c3
    rw [hc] at c
    have e3 : decide (¬ d = 1000000) = false := decide_eq_false (fun z => z c3)
    simp only [offT, decide_eq_false c, e3, Bool.false_and, Bool.and_false, Bool.or_self]
  · have c : ¬ d < W.1 (nI x).toNatClampNeg := c
    have c4 : W.2.2.1 (nI x).toNatClampNeg ≤ r := c4
    rw [hc] at c c4
    simp only [offT, decide_eq_false c, decide_eq_false (Int32.not_lt.mpr c4), Bool.and_false, Bool.or_self]
  · have c : ¬ d < W.1 (nI x).toNatClampNeg := c
    have c2 : d = W.1 (nI x).toNatClampNeg := c2
    have c3 : ¬ d = 1000000 := c3
    have c4 : ¬ W.2.2.1 (nI x).toNatClampNeg ≤ r := c4
    rw [hc] at c c2 c4
    simp only [offT, decide_eq_true c2, decide_eq_true c3, decide_eq_true (Int32.not_le.mp c4), Bool.and_self, Bool.or_true]
