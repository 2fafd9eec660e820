
def tX14_wordOf : List q_I := [(0, .lconst 0, 1, 0, 0), (1, .lstore_n 1, 1, 0, 0), (2, .iconst 0, 1, 0, 0), (3, .istore_n 3, 1, 0, 0), (4, .iload_n 3, 1, 0, 0), (5, .aload_n 0, 1, 0, 0), (6, .invokevirtual 139, 3, 0, 0), (9, .if_icmp .ge 27, 3, 0, 36), (12, .ldc2_w 145, 3, 0, 0), (15, .lload_n 1, 1, 0, 0), (16, .lmul, 1, 0, 0), (17, .aload_n 0, 1, 0, 0), (18, .iload_n 3, 1, 0, 0), (19, .invokevirtual 147, 3, 0, 0), (22, .bipush 97, 2, 97, 0), (24, .isub, 1, 0, 0), (25, .iconst 1, 1, 1, 0), (26, .iadd, 1, 0, 0), (27, .i2l, 1, 0, 0), (28, .ladd, 1, 0, 0), (29, .lstore_n 1, 1, 0, 0), (30, .iinc 3 1, 3, 1, 0), (33, .goto (-29), 3, 0, 4), (36, .lload_n 1, 1, 0, 0), (37, .lreturn, 1, 0, 0)]
theorem tX14_wordOf_ok : (tX14_wordOf.all (q_okI cX14_wordOf)) = true := by decide +kernel

abbrev fdX14_wordOf : List (Nat ⊕ (Nat × Nat)) := []
def spX14_wordOf : q_P := fun a w K => ∃ (t : Nat) (x : String × Nat × String × List Int32), w = [] ∧ a = [.retAddr t] ∧ q_str[t]? = some x ∧ K (.inl (some (.long (wlF x.2.2.2 x.2.2.2.length)))) []
abbrev csX14_wordOf : q_S := (1, 99, 4, 4, 0, 0, fdX14_wordOf, spX14_wordOf)
theorem coX14_139 (l : Launch) : q_CO l RX14 139 csJ0_length_8abf5 := ⟨yJ0_length_8abf5, cJ0_length_8abf5, (some .int), 0, ⟨by decide +kernel, by decide +kernel, by decide +kernel⟩, q_G_i 7 (by decide +kernel) rfl, Or.inr (Or.inr (Or.inl ⟨rfl, rfl, rfl, q_G_i 1601 (by decide +kernel) rfl, q_G_i 212 (by decide +kernel) rfl, q_G_i 213 (by decide +kernel) rfl, q_G_i 214 (by decide +kernel) rfl, ctJ0_length_8abf5 l⟩))⟩
theorem coX14_147 (l : Launch) : q_CO l RX14 147 csJ0_charAt_5068e := ⟨yJ0_charAt_5068e, cJ0_charAt_5068e, (some .char), 1, ⟨by decide +kernel, by decide +kernel, by decide +kernel⟩, q_G_i 7 (by decide +kernel) rfl, Or.inr (Or.inr (Or.inl ⟨rfl, rfl, rfl, q_G_i 1602 (by decide +kernel) rfl, q_G_i 223 (by decide +kernel) rfl, q_G_i 224 (by decide +kernel) rfl, q_G_i 225 (by decide +kernel) rfl, ctJ0_charAt_5068e l⟩))⟩
def EX14_wordOf : q_E := (tX14_wordOf, [(4, [0, 1, 3])], 4, flX14, [(139, csJ0_length_8abf5), (147, csJ0_charAt_5068e)], [(145, 32)], [], [], [], [], 4, 0, 0, (some .long), [], [], 0, 0)
theorem okX14_wordOf (l : Launch) : q_Eok l RX14 cX14_wordOf EX14_wordOf := ⟨tX14_wordOf_ok, flX14_ok, List.forall_mem_cons.mpr ⟨(coX14_139 l), List.forall_mem_cons.mpr ⟨(coX14_147 l), q_nil⟩⟩, List.forall_mem_cons.mpr ⟨q_G_i 1585 (by decide +kernel) rfl, q_nil⟩, q_nil, q_nil, q_nil, q_nil, (fun h => absurd h (by decide))⟩
set_option maxRecDepth 100000 in
set_option maxHeartbeats 4000000 in
theorem ctX14_wordOf (l : Launch) : q_CT l yX14_wordOf (.code yX14_wordOf cX14_wordOf 4 (some .long)) 4 0 0 spX14_wordOf := by
  refine q_ct_of EX14_wordOf (by decide +kernel) (okX14_wordOf l) rfl rfl rfl rfl rfl q_nil (fun ci h => by cases h) rfl ?_
  intro a w K h
  obtain ⟨t, x, rfl, rfl, hx, hK⟩ := h
  have ht := q_str_lt hx
  have hn := q_str_n x (List.mem_of_getElem? hx)
  refine ⟨Nat.le_of_ble_eq_true rfl, fun C hC => ?_⟩
  have loop : ∀ k i, i + k = x.2.2.2.length → C 4 [(0, .retAddr t), (1, .long (wlF x.2.2.2 i)), (3, .int (nI i))] [] [] 0 0 := by
    intro k
    induction k with
    | zero =>
      intro i hi
      have hi : i = x.2.2.2.length := hi
      subst hi
      exact hC _ _ _ _ _ _ ⟨ht, by omega, t, x, rfl, rfl, hx, And.intro (fun _ => hK) (fun c3 => absurd (Int32.le_refl _) c3)⟩
    | succ k ih =>
      intro i hi
      have h9 := ih (i + 1) (by omega)
      rw [wlF, ← nI_1 i] at h9
      exact hC _ _ _ _ _ _ ⟨ht, by omega, t, x, rfl, rfl, hx, And.intro (fun c3 => absurd c3 (nI_ge (b := x.2.2.2.length) (by omega) (by omega))) (fun c3 => ⟨ht, by omega, t, i, x, rfl, rfl, hx, by omega, h9⟩)⟩
  exact hC _ _ _ _ _ _ (loop x.2.2.2.length 0 (by omega))
def isWB (Q : QT) (t : Nat) : Bool := decide (Q.2.1 = 2) && decide (Q.2.2.2.2 = wv t)
theorem kb_of {t : Nat} {x : String × Nat × String × List Int32} (h : q_str[t]? = some x) : kb t = x.2.2.2 := by rw [kb, h]; rfl
def tX14_isWord : List q_I := [(0, .aload_n 0, 1, 0, 0), (1, .getfield 158, 3, 0, 0), (4, .iconst 2, 1, 2, 0), (5, .if_icmp .ne 19, 3, 0, 24), (8, .aload_n 0, 1, 0, 0), (9, .getfield 165, 3, 0, 0), (12, .aload_n 1, 1, 0, 0), (13, .invokestatic 175, 3, 0, 0), (16, .lcmp, 1, 0, 0), (17, .ifCond .ne 7, 3, 0, 24), (20, .iconst 1, 1, 1, 0), (21, .goto 4, 3, 0, 25), (24, .iconst 0, 1, 0, 0), (25, .ireturn, 1, 0, 0)]
theorem tX14_isWord_ok : (tX14_isWord.all (q_okI cX14_isWord)) = true := by decide +kernel

abbrev fdX14_isWord : List (Nat ⊕ (Nat × Nat)) := [.inl 0]
def spX14_isWord : q_P := fun a w K => ∃ (th : Int32) (tr : Int32) (wh : Int32) (fa : Int32) (ta : Int32) (td : Int32) (pn : Int32) (mk : Int32) (mo : Int32) (sn : Int32) (bo : Int32) (jn : Int32) (qn : Int32) (cn : Int32) (n : Nat) (Q : QT) (bk : Value) (t : Nat), w = (modelI th tr wh fa ta td pn mk mo sn bo jn qn cn n Q bk) ∧ a = [.ref 0, .retAddr t] ∧ t < 44 ∧ K (.inl (some (.int (bI (isWB Q t))))) (modelI th tr wh fa ta td pn mk mo sn bo jn qn cn n Q bk)
abbrev csX14_isWord : q_S := (2, 14, 5, 2, 0, 0, fdX14_isWord, spX14_isWord)
theorem coX14_175 (l : Launch) : q_CO l RX14 175 csX14_wordOf := ⟨yX14_wordOf, cX14_wordOf, (some .long), 1, ⟨by decide +kernel, by decide +kernel, by decide +kernel⟩, q_G_i 17 (by decide +kernel) rfl, Or.inr (Or.inr (Or.inr ⟨rfl, rfl, q_G_i 1598 (by decide +kernel) rfl, q_G_i 1599 (by decide +kernel) rfl, Or.inl ⟨q_G_i 1600 (by decide +kernel) rfl, ctX14_wordOf l⟩⟩))⟩
def EX14_isWord : q_E := (tX14_isWord, [], 2, flX14, [(175, csX14_wordOf)], [], [], [], [], [], 5, 0, 0, (some .boolean), [], [], 0, 0)
theorem okX14_isWord (l : Launch) : q_Eok l RX14 cX14_isWord EX14_isWord := ⟨tX14_isWord_ok, flX14_ok, List.forall_mem_cons.mpr ⟨(coX14_175 l), q_nil⟩, q_nil, q_nil, q_nil, q_nil, q_nil, (fun h => absurd h (by decide))⟩
set_option maxRecDepth 100000 in
set_option maxHeartbeats 4000000 in
theorem ctX14_isWord (l : Launch) : q_CT l yX14_isWord (.code yX14_isWord cX14_isWord 2 (some .boolean)) 5 0 0 spX14_isWord := by
  refine q_ct_of EX14_isWord (by decide +kernel) (okX14_isWord l) rfl rfl rfl rfl rfl q_nil (fun ci h => by cases h) rfl ?_
  intro a w K h
  obtain ⟨th, tr, wh, fa, ta, td, pn, mk, mo, sn, bo, jn, qn, cn, n, Q, bk, t, rfl, rfl, ht, hK⟩ := h
  obtain ⟨x, hx⟩ : ∃ x, q_str[t]? = some x := ⟨_, List.getElem?_eq_getElem (by show t < q_str.length; exact ht)⟩
  refine ⟨Nat.le_of_ble_eq_true rfl, fun C hC => hC _ _ _ _ _ _ ?_⟩
  refine And.intro (fun c => ⟨rfl, ?_⟩) (fun c => ⟨by omega, t, x, rfl, rfl, hx, ?_⟩)
  · rw [isWB, decide_eq_false c, Bool.false_and] at hK; exact hK
  · rw [isWB, decide_eq_true c, Bool.true_and, wv, kb_of hx] at hK
    refine And.intro (fun c2 => ⟨rfl, ?_⟩) (fun c2 => ⟨rfl, ?_⟩)
    · rw [bI_f (fun z => c2 ((lg_cmp_eq _ _).mpr z))] at hK; exact hK
    · rw [bI_t ((lg_cmp_eq _ _).mp c2)] at hK; exact hK
def isNML (Q : QT) : List Nat → Bool
  | [] => true
  | t :: l => if isWB Q t then false else isNML Q l
def isNM (Q : QT) : Bool := decide (Q.2.1 = 2) && isNML Q [23, 24, 25, 26, 27, 28, 29, 30, 31, 32]
def tX14_isName : List q_I := [(0, .aload_n 0, 1, 0, 0), (1, .getfield 158, 3, 0, 0), (4, .iconst 2, 1, 2, 0), (5, .if_icmp .ne 97, 3, 0, 102), (8, .aload_n 0, 1, 0, 0), (9, .ldc 179, 2, 0, 0), (11, .invokevirtual 180, 3, 0, 0), (14, .ifCond .ne 88, 3, 0, 102), (17, .aload_n 0, 1, 0, 0), (18, .ldc 184, 2, 0, 0), (20, .invokevirtual 180, 3, 0, 0), (23, .ifCond .ne 79, 3, 0, 102), (26, .aload_n 0, 1, 0, 0), (27, .ldc 186, 2, 0, 0), (29, .invokevirtual 180, 3, 0, 0), (32, .ifCond .ne 70, 3, 0, 102), (35, .aload_n 0, 1, 0, 0), (36, .ldc 188, 2, 0, 0), (38, .invokevirtual 180, 3, 0, 0), (41, .ifCond .ne 61, 3, 0, 102), (44, .aload_n 0, 1, 0, 0), (45, .ldc 189, 2, 0, 0), (47, .invokevirtual 180, 3, 0, 0), (50, .ifCond .ne 52, 3, 0, 102), (53, .aload_n 0, 1, 0, 0), (54, .ldc 191, 2, 0, 0), (56, .invokevirtual 180, 3, 0, 0), (59, .ifCond .ne 43, 3, 0, 102), (62, .aload_n 0, 1, 0, 0), (63, .ldc 193, 2, 0, 0), (65, .invokevirtual 180, 3, 0, 0), (68, .ifCond .ne 34, 3, 0, 102), (71, .aload_n 0, 1, 0, 0), (72, .ldc 195, 2, 0, 0), (74, .invokevirtual 180, 3, 0, 0), (77, .ifCond .ne 25, 3, 0, 102), (80, .aload_n 0, 1, 0, 0), (81, .ldc 197, 2, 0, 0), (83, .invokevirtual 180, 3, 0, 0), (86, .ifCond .ne 16, 3, 0, 102), (89, .aload_n 0, 1, 0, 0), (90, .ldc 199, 2, 0, 0), (92, .invokevirtual 180, 3, 0, 0), (95, .ifCond .ne 7, 3, 0, 102), (98, .iconst 1, 1, 1, 0), (99, .goto 4, 3, 0, 103), (102, .iconst 0, 1, 0, 0), (103, .ireturn, 1, 0, 0)]
theorem tX14_isName_ok : (tX14_isName.all (q_okI cX14_isName)) = true := by decide +kernel

abbrev fdX14_isName : List (Nat ⊕ (Nat × Nat)) := [.inl 0]
def spX14_isName : q_P := fun a w K => ∃ (th : Int32) (tr : Int32) (wh : Int32) (fa : Int32) (ta : Int32) (td : Int32) (pn : Int32) (mk : Int32) (mo : Int32) (sn : Int32) (bo : Int32) (jn : Int32) (qn : Int32) (cn : Int32) (n : Nat) (Q : QT) (bk : Value), w = (modelI th tr wh fa ta td pn mk mo sn bo jn qn cn n Q bk) ∧ a = [.ref 0] ∧ bkB bk ∧ K (.inl (some (.int (bI (isNM Q))))) (modelI th tr wh fa ta td pn mk mo sn bo jn qn cn n Q bk)
abbrev csX14_isName : q_S := (1, 14, 6, 1, 0, 0, fdX14_isName, spX14_isName)
theorem coX14_180 (l : Launch) : q_CO l RX14 180 csX14_isWord := ⟨yX14_isWord, cX14_isWord, (some .boolean), 1, ⟨by decide +kernel, by decide +kernel, by decide +kernel⟩, q_G_i 17 (by decide +kernel) rfl, Or.inl ⟨by decide, rfl, rfl, q_G_i 1594 (by decide +kernel) rfl, q_G_i 1596 (by decide +kernel) rfl, q_G_s (n := 53) 53 (by decide +kernel), Or.inl ⟨q_G_i 1597 (by decide +kernel) rfl, ctX14_isWord l⟩⟩⟩
def EX14_isName : q_E := (tX14_isName, [], 1, flX14, [(180, csX14_isWord)], [], [], [(179, 23), (184, 24), (186, 25), (188, 26), (189, 27), (191, 28), (193, 29), (195, 30), (197, 31), (199, 32)], [], [], 6, 0, 0, (some .boolean), [], [], 0, 0)
theorem okX14_isName (l : Launch) : q_Eok l RX14 cX14_isName EX14_isName := ⟨tX14_isName_ok, flX14_ok, List.forall_mem_cons.mpr ⟨(coX14_180 l), q_nil⟩, q_nil, q_nil, List.forall_mem_cons.mpr ⟨⟨_, rfl, rfl, rfl⟩, List.forall_mem_cons.mpr ⟨⟨_, rfl, rfl, rfl⟩, List.forall_mem_cons.mpr ⟨⟨_, rfl, rfl, rfl⟩, List.forall_mem_cons.mpr ⟨⟨_, rfl, rfl, rfl⟩, List.forall_mem_cons.mpr ⟨⟨_, rfl, rfl, rfl⟩, List.forall_mem_cons.mpr ⟨⟨_, rfl, rfl, rfl⟩, List.forall_mem_cons.mpr ⟨⟨_, rfl, rfl, rfl⟩, List.forall_mem_cons.mpr ⟨⟨_, rfl, rfl, rfl⟩, List.forall_mem_cons.mpr ⟨⟨_, rfl, rfl, rfl⟩, List.forall_mem_cons.mpr ⟨⟨_, rfl, rfl, rfl⟩, q_nil⟩⟩⟩⟩⟩⟩⟩⟩⟩⟩, q_nil, q_nil, (fun h => absurd h (by decide))⟩
set_option maxRecDepth 100000 in
set_option maxHeartbeats 4000000 in
theorem ctX14_isName (l : Launch) : q_CT l yX14_isName (.code yX14_isName cX14_isName 1 (some .boolean)) 6 0 0 spX14_isName := by
  refine q_ct_of EX14_isName (by decide +kernel) (okX14_isName l) rfl rfl rfl rfl rfl q_nil (fun ci h => by cases h) rfl ?_
  intro a w K h
  obtain ⟨th, tr, wh, fa, ta, td, pn, mk, mo, sn, bo, jn, qn, cn, n, Q, bk, rfl, rfl, hbk, hK⟩ := h
  rcases hbk with rfl | rfl
  · refine ⟨Nat.le_of_ble_eq_true rfl, fun C hC => hC _ _ _ _ _ _ ?_⟩
    refine And.intro (fun c => ⟨rfl, ?_⟩) (fun c => ?_)
    · rw [isNM, decide_eq_false c, Bool.false_and] at hK; exact hK
    rw [isNM, decide_eq_true c, Bool.true_and] at hK
    refine ⟨by decide, _, _, _, _, _, _, _, _, _, _, _, _, _, _, _, _, _, 23, rfl, rfl, by decide, And.intro (fun c => ⟨rfl, ?_⟩) (fun c => ?_)⟩
    · rw [isNML, if_pos (bI_n0.mp c)] at hK; exact hK
    rw [isNML, if_neg (by rw [bI_0.mp c]; decide)] at hK
    refine ⟨by decide, _, _, _, _, _, _, _, _, _, _, _, _, _, _, _, _, _, 24, rfl, rfl, by decide, And.intro (fun c => ⟨rfl, ?_⟩) (fun c => ?_)⟩
    · rw [isNML, if_pos (bI_n0.mp c)] at hK; exact hK
    rw [isNML, if_neg (by rw [bI_0.mp c]; decide)] at hK
    refine ⟨by decide, _, _, _, _, _, _, _, _, _, _, _, _, _, _, _, _, _, 25, rfl, rfl, by decide, And.intro (fun c => ⟨rfl, ?_⟩) (fun c => ?_)⟩
    · rw [isNML, if_pos (bI_n0.mp c)] at hK; exact hK
    rw [isNML, if_neg (by rw [bI_0.mp c]; decide)] at hK
    refine ⟨by decide, _, _, _, _, _, _, _, _, _, _, _, _, _, _, _, _, _, 26, rfl, rfl, by decide, And.intro (fun c => ⟨rfl, ?_⟩) (fun c => ?_)⟩
    · rw [isNML, if_pos (bI_n0.mp c)] at hK; exact hK
    rw [isNML, if_neg (by rw [bI_0.mp c]; decide)] at hK
    refine ⟨by decide, _, _, _, _, _, _, _, _, _, _, _, _, _, _, _, _, _, 27, rfl, rfl, by decide, And.intro (fun c => ⟨rfl, ?_⟩) (fun c => ?_)⟩
    · rw [isNML, if_pos (bI_n0.mp c)] at hK; exact hK
    rw [isNML, if_neg (by rw [bI_0.mp c]; decide)] at hK
    refine ⟨by decide, _, _, _, _, _, _, _, _, _, _, _, _, _, _, _, _, _, 28, rfl, rfl, by decide, And.intro (fun c => ⟨rfl, ?_⟩) (fun c => ?_)⟩
    · rw [isNML, if_pos (bI_n0.mp c)] at hK; exact hK
    rw [isNML, if_neg (by rw [bI_0.mp c]; decide)] at hK
    refine ⟨by decide, _, _, _, _, _, _, _, _, _, _, _, _, _, _, _, _, _, 29, rfl, rfl, by decide, And.intro (fun c => ⟨rfl, ?_⟩) (fun c => ?_)⟩
    · rw [isNML, if_pos (bI_n0.mp c)] at hK; exact hK
    rw [isNML, if_neg (by rw [bI_0.mp c]; decide)] at hK
    refine ⟨by decide, _, _, _, _, _, _, _, _, _, _, _, _, _, _, _, _, _, 30, rfl, rfl, by decide, And.intro (fun c => ⟨rfl, ?_⟩) (fun c => ?_)⟩
    · rw [isNML, if_pos (bI_n0.mp c)] at hK; exact hK
    rw [isNML, if_neg (by rw [bI_0.mp c]; decide)] at hK
    refine ⟨by decide, _, _, _, _, _, _, _, _, _, _, _, _, _, _, _, _, _, 31, rfl, rfl, by decide, And.intro (fun c => ⟨rfl, ?_⟩) (fun c => ?_)⟩
    · rw [isNML, if_pos (bI_n0.mp c)] at hK; exact hK
    rw [isNML, if_neg (by rw [bI_0.mp c]; decide)] at hK
    refine ⟨by decide, _, _, _, _, _, _, _, _, _, _, _, _, _, _, _, _, _, 32, rfl, rfl, by decide, And.intro (fun c => ⟨rfl, ?_⟩) (fun c => ⟨rfl, ?_⟩)⟩
    · rw [isNML, if_pos (bI_n0.mp c)] at hK; exact hK
    · rw [isNML, if_neg (by rw [bI_0.mp c]; decide)] at hK
      exact hK
  · refine ⟨Nat.le_of_ble_eq_true rfl, fun C hC => hC _ _ _ _ _ _ ?_⟩
    refine And.intro (fun c => ⟨rfl, ?_⟩) (fun c => ?_)
    · rw [isNM, decide_eq_false c, Bool.false_and] at hK; exact hK
    rw [isNM, decide_eq_true c, Bool.true_and] at hK
    refine ⟨by decide, _, _, _, _, _, _, _, _, _, _, _, _, _, _, _, _, _, 23, rfl, rfl, by decide, And.intro (fun c => ⟨rfl, ?_⟩) (fun c => ?_)⟩
    · rw [isNML, if_pos (bI_n0.mp c)] at hK; exact hK
    rw [isNML, if_neg (by rw [bI_0.mp c]; decide)] at hK
    refine ⟨by decide, _, _, _, _, _, _, _, _, _, _, _, _, _, _, _, _, _, 24, rfl, rfl, by decide, And.intro (fun c => ⟨rfl, ?_⟩) (fun c => ?_)⟩
    · rw [isNML, if_pos (bI_n0.mp c)] at hK; exact hK
    rw [isNML, if_neg (by rw [bI_0.mp c]; decide)] at hK
    refine ⟨by decide, _, _, _, _, _, _, _, _, _, _, _, _, _, _, _, _, _, 25, rfl, rfl, by decide, And.intro (fun c => ⟨rfl, ?_⟩) (fun c => ?_)⟩
    · rw [isNML, if_pos (bI_n0.mp c)] at hK; exact hK
    rw [isNML, if_neg (by rw [bI_0.mp c]; decide)] at hK
    refine ⟨by decide, _, _, _, _, _, _, _, _, _, _, _, _, _, _, _, _, _, 26, rfl, rfl, by decide, And.intro (fun c => ⟨rfl, ?_⟩) (fun c => ?_)⟩
    · rw [isNML, if_pos (bI_n0.mp c)] at hK; exact hK
    rw [isNML, if_neg (by rw [bI_0.mp c]; decide)] at hK
    refine ⟨by decide, _, _, _, _, _, _, _, _, _, _, _, _, _, _, _, _, _, 27, rfl, rfl, by decide, And.intro (fun c => ⟨rfl, ?_⟩) (fun c => ?_)⟩
    · rw [isNML, if_pos (bI_n0.mp c)] at hK; exact hK
    rw [isNML, if_neg (by rw [bI_0.mp c]; decide)] at hK
    refine ⟨by decide, _, _, _, _, _, _, _, _, _, _, _, _, _, _, _, _, _, 28, rfl, rfl, by decide, And.intro (fun c => ⟨rfl, ?_⟩) (fun c => ?_)⟩
    · rw [isNML, if_pos (bI_n0.mp c)] at hK; exact hK
    rw [isNML, if_neg (by rw [bI_0.mp c]; decide)] at hK
    refine ⟨by decide, _, _, _, _, _, _, _, _, _, _, _, _, _, _, _, _, _, 29, rfl, rfl, by decide, And.intro (fun c => ⟨rfl, ?_⟩) (fun c => ?_)⟩
    · rw [isNML, if_pos (bI_n0.mp c)] at hK; exact hK
    rw [isNML, if_neg (by rw [bI_0.mp c]; decide)] at hK
    refine ⟨by decide, _, _, _, _, _, _, _, _, _, _, _, _, _, _, _, _, _, 30, rfl, rfl, by decide, And.intro (fun c => ⟨rfl, ?_⟩) (fun c => ?_)⟩
    · rw [isNML, if_pos (bI_n0.mp c)] at hK; exact hK
    rw [isNML, if_neg (by rw [bI_0.mp c]; decide)] at hK
    refine ⟨by decide, _, _, _, _, _, _, _, _, _, _, _, _, _, _, _, _, _, 31, rfl, rfl, by decide, And.intro (fun c => ⟨rfl, ?_⟩) (fun c => ?_)⟩
    · rw [isNML, if_pos (bI_n0.mp c)] at hK; exact hK
    rw [isNML, if_neg (by rw [bI_0.mp c]; decide)] at hK
    refine ⟨by decide, _, _, _, _, _, _, _, _, _, _, _, _, _, _, _, _, _, 32, rfl, rfl, by decide, And.intro (fun c => ⟨rfl, ?_⟩) (fun c => ⟨rfl, ?_⟩)⟩
    · rw [isNML, if_pos (bI_n0.mp c)] at hK; exact hK
    · rw [isNML, if_neg (by rw [bI_0.mp c]; decide)] at hK
      exact hK
def tX14_stop : List q_I := [(0, .aload_n 0, 1, 0, 0), (1, .getfield 16, 3, 0, 0), (4, .iload_n 1, 1, 0, 0), (5, .putfield 129, 3, 0, 0), (8, .aload_n 0, 1, 0, 0), (9, .getfield 16, 3, 0, 0), (12, .aload_n 0, 1, 0, 0), (13, .getfield 132, 3, 0, 0), (16, .putfield 135, 3, 0, 0), (19, .aload_n 0, 1, 0, 0), (20, .getfield 16, 3, 0, 0), (23, .areturn, 1, 0, 0)]
theorem tX14_stop_ok : (tX14_stop.all (q_okI cX14_stop)) = true := by decide +kernel

abbrev fdX14_stop : List (Nat ⊕ (Nat × Nat)) := [.inl 0, .inr (0, 6)]
def spX14_stop : q_P := fun a w K => ∃ (th : Int32) (tr : Int32) (wh : Int32) (fa : Int32) (ta : Int32) (td : Int32) (pn : Int32) (mk : Int32) (mo : Int32) (sn : Int32) (bo : Int32) (jn : Int32) (qn : Int32) (cn : Int32) (n : Nat) (Q : QT) (bk : Value) (fr : Value) (sk : Int32) (sp : Int32) (k : Int32), w = (modelP th tr wh fa ta td pn mk mo sn bo jn qn cn n Q bk fr sk sp) ∧ a = [.ref 0, .int k] ∧ K (.inl (some (.ref 1))) (modelP th tr wh fa ta td pn mk mo sn bo jn qn cn n Q bk fr (k) (nI Q.2.2.1))
abbrev csX14_stop : q_S := (2, 14, 0, 2, 0, 0, fdX14_stop, spX14_stop)
def EX14_stop : q_E := (tX14_stop, [], 2, flX14, [], [], [], [], [], [], 0, 0, 0, (some (.object "BridgeStripModel$Stop")), [], [], 0, 0)
theorem okX14_stop (l : Launch) : q_Eok l RX14 cX14_stop EX14_stop := ⟨tX14_stop_ok, flX14_ok, q_nil, q_nil, q_nil, q_nil, q_nil, q_nil, (fun h => absurd h (by decide))⟩
set_option maxRecDepth 100000 in
set_option maxHeartbeats 4000000 in
theorem ctX14_stop (l : Launch) : q_CT l yX14_stop (.code yX14_stop cX14_stop 2 (some (.object "BridgeStripModel$Stop"))) 0 0 0 spX14_stop := by
  refine q_ct_of EX14_stop (by decide +kernel) (okX14_stop l) rfl rfl rfl rfl rfl q_nil (fun ci h => by cases h) rfl ?_
  intro a w K h
  obtain ⟨th, tr, wh, fa, ta, td, pn, mk, mo, sn, bo, jn, qn, cn, n, Q, bk, fr, sk, sp, k, rfl, rfl, hK⟩ := h
  refine ⟨Nat.le_of_ble_eq_true rfl, fun C hC => hC _ _ _ _ _ _ ?_⟩
  exact hK
def tX12_find : List q_I := [(0, .iconst 0, 1, 0, 0), (1, .istore_n 3, 1, 0, 0), (2, .iload_n 3, 1, 0, 0), (3, .aload_n 0, 1, 0, 0), (4, .getfield 89, 3, 0, 0), (7, .if_icmp .ge 22, 3, 0, 29), (10, .aload_n 0, 1, 0, 0), (11, .getfield 9, 3, 0, 0), (14, .iload_n 3, 1, 0, 0), (15, .laload, 1, 0, 0), (16, .lload_n 1, 1, 0, 0), (17, .lcmp, 1, 0, 0), (18, .ifCond .ne 5, 3, 0, 23), (21, .iload_n 3, 1, 0, 0), (22, .ireturn, 1, 0, 0), (23, .iinc 3 1, 3, 1, 0), (26, .goto (-24), 3, 0, 2), (29, .iconst (-1), 1, (-1), 0), (30, .ireturn, 1, 0, 0)]
theorem tX12_find_ok : (tX12_find.all (q_okI cX12_find)) = true := by decide +kernel

abbrev fdX12_find : List (Nat ⊕ (Nat × Nat)) := [.inl 0, .inr (0, 0), .inr (0, 1), .inr (0, 2), .inr (0, 3), .inr (0, 8), .inr (0, 9), .inr (0, 10), .inr (0, 11), .inr (0, 12), .inr (0, 13), .inr (0, 14), .inr (0, 15), .inr (0, 16), .inr (0, 17), .inr (0, 18), .inr (0, 19), .inr (0, 20), .inr (0, 21), .inr (0, 22), .inr (0, 23), .inr (0, 24), .inr (0, 25), .inr (0, 26), .inr (0, 27), .inr (0, 28)]
def spX12_find : q_P := fun a w K => ∃ (B : BT) (R : RT) (L : LT) (G : GT) (x : Int64), w = mbookW 0 B R L G ∧ a = [.ref 0, .long x] ∧ B.2.2.2.2 ≤ 25 ∧ K (.inl (some (.int (oI (fstO (fun i => decide (B.2.1 i = x)) 0 B.2.2.2.2))))) (mbookW 0 B R L G)
abbrev csX12_find : q_S := (2, 12, 0, 4, 0, 0, fdX12_find, spX12_find)
def EX12_find : q_E := (tX12_find, [(2, [0, 1, 3])], 4, flX12, [], [], [], [], [], [], 0, 0, 0, (some .int), [], [], 0, 0)
theorem okX12_find (l : Launch) : q_Eok l RX12 cX12_find EX12_find := ⟨tX12_find_ok, flX12_ok, q_nil, q_nil, q_nil, q_nil, q_nil, q_nil, (fun h => absurd h (by decide))⟩
set_option maxRecDepth 100000 in
set_option maxHeartbeats 4000000 in
theorem ctX12_find (l : Launch) : q_CT l yX12_find (.code yX12_find cX12_find 4 (some .int)) 0 0 0 spX12_find := by
  refine q_ct_of EX12_find (by decide +kernel) (okX12_find l) rfl rfl rfl rfl rfl q_nil (fun ci h => by cases h) rfl ?_
  intro a w K h
  obtain ⟨B, R, L, G, x, rfl, rfl, hn, hK⟩ := h
  refine ⟨Nat.le_of_ble_eq_true rfl, fun C hC => ?_⟩
  have loop : ∀ n i, i + n = B.2.2.2.2 → fstO (fun i => decide (B.2.1 i = x)) 0 B.2.2.2.2 = fstO (fun i => decide (B.2.1 i = x)) i n → C 2 [(0, .ref 0), (1, .long x), (3, .int (nI i))] [] (mbookW 0 B R L G) 0 0 := by
    intro n
    induction n with
    | zero =>
      intro i hi he
      refine hC _ _ _ _ _ _ ?_
      refine And.intro (fun c1 => ?_) (fun c1 => absurd (nI_le (by omega) (by omega)) c1)
      rw [he] at hK; exact hK
    | succ n ih =>
      intro i hi he
      refine hC _ _ _ _ _ _ ?_
      have hc : (nI i).toNatClampNeg = i := nI_clamp (by omega)
      refine And.intro (fun c1 => absurd c1 (nI_ge (by omega) (by omega))) (fun c1 => ⟨vp_in_nI (by omega) (by omega), And.intro (fun c2 => ?_) (fun c2 => ?_)⟩)
      · have c2 := fun z => c2 ((lg_cmp_eq _ _).mpr z)
        rw [hc] at c2
        have h9 := ih (i + 1) (by omega) (by rw [he, fstO, decide_eq_false c2]; rfl)
        rw [← nI_1] at h9
        exact h9
      · have c2 := (lg_cmp_eq _ _).mp c2
        rw [hc] at c2
        rw [he, fstO, decide_eq_true c2] at hK; exact hK
  exact hC _ _ _ _ _ _ (loop B.2.2.2.2 0 (by omega) rfl)
def bkZ (v : Value) : Prop := v = .null ∨ v = tk 0 4 ∨ v = .ref 3
def tX14_needWord : List q_I := [(0, .aload_n 0, 1, 0, 0), (1, .aload_n 1, 1, 0, 0), (2, .invokevirtual 180, 3, 0, 0), (5, .ifCond .ne 9, 3, 0, 14), (8, .aload_n 0, 1, 0, 0), (9, .iconst 1, 1, 1, 0), (10, .invokevirtual 201, 3, 0, 0), (13, .athrow, 1, 0, 0), (14, .aload_n 0, 1, 0, 0), (15, .invokevirtual 204, 3, 0, 0), (18, .return_, 1, 0, 0)]
theorem tX14_needWord_ok : (tX14_needWord.all (q_okI cX14_needWord)) = true := by decide +kernel

abbrev fdX14_needWord : List (Nat ⊕ (Nat × Nat)) := [.inl 0, .inr (0, 7), .inr (0, 6), .inr (0, 5), .inr (3, 0), .inr (3, 1), .inr (3, 2), .inr (3, 3), .inr (3, 8), .inr (3, 9), .inr (3, 10), .inr (3, 11), .inr (3, 12), .inr (3, 13), .inr (3, 14), .inr (3, 15), .inr (3, 16), .inr (3, 17), .inr (3, 18), .inr (3, 19), .inr (3, 20), .inr (3, 21), .inr (3, 22), .inr (3, 23), .inr (3, 24), .inr (3, 25), .inr (3, 26), .inr (3, 27), .inr (3, 28)]
def spX14_needWord : q_P := fun a w K => ∃ (th : Int32) (tr : Int32) (wh : Int32) (fa : Int32) (ta : Int32) (td : Int32) (pn : Int32) (mk : Int32) (mo : Int32) (sn : Int32) (bo : Int32) (jn : Int32) (qn : Int32) (cn : Int32) (n : Nat) (Q : QT) (bk : Value) (tx : Nat → Int32) (sk : Int32) (sp : Int32) (B : BT) (R : RT) (L : LT) (G : GT) (t : Nat), w = (modelZ th tr wh fa ta td pn mk mo sn bo jn qn cn n Q bk tx sk sp B R L G) ∧ a = [.ref 0, .retAddr t] ∧ t < 44 ∧ n ≤ 700 ∧ Q.1 ≤ n ∧ bkZ bk ∧ (if isWB Q t = true then K (.inl none) (modelZ th tr wh fa ta td pn mk mo sn bo jn qn cn n (nxF tx n Q) bk tx sk sp B R L G) else K (.inr (.ref 2)) (modelZ th tr wh fa ta td pn mk mo sn bo jn qn cn n Q bk tx (1) (nI Q.2.2.1) B R L G))
abbrev csX14_needWord : q_S := (2, 14, 6, 2, 0, 0, fdX14_needWord, spX14_needWord)
theorem coX14_201 (l : Launch) : q_CO l RX14 201 csX14_stop := ⟨yX14_stop, cX14_stop, (some (.object "BridgeStripModel$Stop")), 1, ⟨by decide +kernel, by decide +kernel, by decide +kernel⟩, q_G_i 17 (by decide +kernel) rfl, Or.inl ⟨by decide, rfl, rfl, q_G_i 1607 (by decide +kernel) rfl, q_G_i 1609 (by decide +kernel) rfl, q_G_s (n := 53) 55 (by decide +kernel), Or.inl ⟨q_G_i 1610 (by decide +kernel) rfl, ctX14_stop l⟩⟩⟩
theorem coX14_204 (l : Launch) : q_CO l RX14 204 csX14_next := ⟨yX14_next, cX14_next, none, 0, ⟨by decide +kernel, by decide +kernel, by decide +kernel⟩, q_G_i 17 (by decide +kernel) rfl, Or.inl ⟨by decide, rfl, rfl, q_G_i 1574 (by decide +kernel) rfl, q_G_i 1576 (by decide +kernel) rfl, q_G_s (n := 53) 50 (by decide +kernel), Or.inl ⟨q_G_i 1577 (by decide +kernel) rfl, ctX14_next l⟩⟩⟩
def EX14_needWord : q_E := (tX14_needWord, [], 2, flX14, [(180, csX14_isWord), (201, csX14_stop), (204, csX14_next)], [], [], [], [], [], 6, 0, 0, none, [], [], 0, 0)
theorem okX14_needWord (l : Launch) : q_Eok l RX14 cX14_needWord EX14_needWord := ⟨tX14_needWord_ok, flX14_ok, List.forall_mem_cons.mpr ⟨(coX14_180 l), List.forall_mem_cons.mpr ⟨(coX14_201 l), List.forall_mem_cons.mpr ⟨(coX14_204 l), q_nil⟩⟩⟩, q_nil, q_nil, q_nil, q_nil, q_nil, (fun h => absurd h (by decide))⟩
set_option maxRecDepth 100000 in
set_option maxHeartbeats 4000000 in
theorem ctX14_needWord (l : Launch) : q_CT l yX14_needWord (.code yX14_needWord cX14_needWord 2 none) 6 0 0 spX14_needWord := by
  refine q_ct_of EX14_needWord (by decide +kernel) (okX14_needWord l) rfl rfl rfl rfl rfl q_nil (fun ci h => by cases h) rfl ?_
  intro a w K h
  obtain ⟨th, tr, wh, fa, ta, td, pn, mk, mo, sn, bo, jn, qn, cn, n, Q, bk, tx, sk, sp, B, R, L, G, t, rfl, rfl, ht, hn, hQ, hbk, hK⟩ := h
  rcases hbk with rfl | rfl | rfl
  · refine ⟨Nat.le_of_ble_eq_true rfl, fun C hC => hC _ _ _ _ _ _ ?_⟩
    refine ⟨by omega, _, _, _, _, _, _, _, _, _, _, _, _, _, _, _, _, _, t, rfl, rfl, ht, And.intro (fun c => ?_) (fun c => ?_)⟩
    · rw [if_pos (bI_n0.mp c)] at hK
      exact ⟨_, _, _, _, _, _, _, _, _, _, _, _, _, _, _, _, _, _, rfl, rfl, hn, hQ, (by first | exact Or.inl rfl | exact Or.inr rfl), hK⟩
    · rw [if_neg (by rw [bI_0.mp c]; decide)] at hK
      exact ⟨_, _, _, _, _, _, _, _, _, _, _, _, _, _, _, _, _, _, _, _, _, rfl, rfl, hK⟩
  · refine ⟨Nat.le_of_ble_eq_true rfl, fun C hC => hC _ _ _ _ _ _ ?_⟩
    refine ⟨by omega, _, _, _, _, _, _, _, _, _, _, _, _, _, _, _, _, _, t, rfl, rfl, ht, And.intro (fun c => ?_) (fun c => ?_)⟩
    · rw [if_pos (bI_n0.mp c)] at hK
      exact ⟨_, _, _, _, _, _, _, _, _, _, _, _, _, _, _, _, _, _, rfl, rfl, hn, hQ, (by first | exact Or.inl rfl | exact Or.inr rfl), hK⟩
    · rw [if_neg (by rw [bI_0.mp c]; decide)] at hK
      exact ⟨_, _, _, _, _, _, _, _, _, _, _, _, _, _, _, _, _, _, _, _, _, rfl, rfl, hK⟩
  · refine ⟨Nat.le_of_ble_eq_true rfl, fun C hC => hC _ _ _ _ _ _ ?_⟩
    refine ⟨by omega, _, _, _, _, _, _, _, _, _, _, _, _, _, _, _, _, _, t, rfl, rfl, ht, And.intro (fun c => ?_) (fun c => ?_)⟩
    · rw [if_pos (bI_n0.mp c)] at hK
      exact ⟨_, _, _, _, _, _, _, _, _, _, _, _, _, _, _, _, _, _, rfl, rfl, hn, hQ, (by first | exact Or.inl rfl | exact Or.inr rfl), hK⟩
    · rw [if_neg (by rw [bI_0.mp c]; decide)] at hK
      exact ⟨_, _, _, _, _, _, _, _, _, _, _, _, _, _, _, _, _, _, _, _, _, rfl, rfl, hK⟩
def whF (tx : Nat → Int32) (n : Nat) (Q : QT) (lo hi : Int32) : Int32 ⊕ (Int32 × QT) := if Q.2.1 = 3 then (if inB Q.2.2.2.1 lo hi = true then .inr (Q.2.2.2.1, nxF tx n Q) else .inl 4) else .inl 1
def tX14_readWhole : List q_I := [(0, .aload_n 0, 1, 0, 0), (1, .getfield 158, 3, 0, 0), (4, .iconst 3, 1, 3, 0), (5, .if_icmp .eq 9, 3, 0, 14), (8, .aload_n 0, 1, 0, 0), (9, .iconst 1, 1, 1, 0), (10, .invokevirtual 201, 3, 0, 0), (13, .athrow, 1, 0, 0), (14, .aload_n 0, 1, 0, 0), (15, .getfield 172, 3, 0, 0), (18, .iload_n 1, 1, 0, 0), (19, .iload_n 2, 1, 0, 0), (20, .invokestatic 207, 3, 0, 0), (23, .ifCond .ne 9, 3, 0, 32), (26, .aload_n 0, 1, 0, 0), (27, .iconst 4, 1, 4, 0), (28, .invokevirtual 201, 3, 0, 0), (31, .athrow, 1, 0, 0), (32, .aload_n 0, 1, 0, 0), (33, .getfield 172, 3, 0, 0), (36, .istore_n 3, 1, 0, 0), (37, .aload_n 0, 1, 0, 0), (38, .invokevirtual 204, 3, 0, 0), (41, .iload_n 3, 1, 0, 0), (42, .ireturn, 1, 0, 0)]
theorem tX14_readWhole_ok : (tX14_readWhole.all (q_okI cX14_readWhole)) = true := by decide +kernel

abbrev fdX14_readWhole : List (Nat ⊕ (Nat × Nat)) := [.inl 0, .inr (0, 7), .inr (0, 6), .inr (0, 5), .inr (3, 0), .inr (3, 1), .inr (3, 2), .inr (3, 3), .inr (3, 8), .inr (3, 9), .inr (3, 10), .inr (3, 11), .inr (3, 12), .inr (3, 13), .inr (3, 14), .inr (3, 15), .inr (3, 16), .inr (3, 17), .inr (3, 18), .inr (3, 19), .inr (3, 20), .inr (3, 21), .inr (3, 22), .inr (3, 23), .inr (3, 24), .inr (3, 25), .inr (3, 26), .inr (3, 27), .inr (3, 28)]
def spX14_readWhole : q_P := fun a w K => ∃ (th : Int32) (tr : Int32) (wh : Int32) (fa : Int32) (ta : Int32) (td : Int32) (pn : Int32) (mk : Int32) (mo : Int32) (sn : Int32) (bo : Int32) (jn : Int32) (qn : Int32) (cn : Int32) (n : Nat) (Q : QT) (bk : Value) (tx : Nat → Int32) (sk : Int32) (sp : Int32) (B : BT) (R : RT) (L : LT) (G : GT) (lo hi : Int32), w = (modelZ th tr wh fa ta td pn mk mo sn bo jn qn cn n Q bk tx sk sp B R L G) ∧ a = [.ref 0, .int lo, .int hi] ∧ n ≤ 700 ∧ Q.1 ≤ n ∧ bkZ bk ∧ (match whF tx n Q lo hi with | .inl k => K (.inr (.ref 2)) (modelZ th tr wh fa ta td pn mk mo sn bo jn qn cn n Q bk tx (k) (nI Q.2.2.1) B R L G) | .inr (v, Q') => K (.inl (some (.int v))) (modelZ th tr wh fa ta td pn mk mo sn bo jn qn cn n (Q') bk tx sk sp B R L G))
abbrev csX14_readWhole : q_S := (3, 14, 2, 4, 0, 0, fdX14_readWhole, spX14_readWhole)
def EX14_readWhole : q_E := (tX14_readWhole, [], 4, flX14, [(201, csX14_stop), (207, csX14_in), (204, csX14_next)], [], [], [], [], [], 2, 0, 0, (some .int), [], [], 0, 0)
theorem okX14_readWhole (l : Launch) : q_Eok l RX14 cX14_readWhole EX14_readWhole := ⟨tX14_readWhole_ok, flX14_ok, List.forall_mem_cons.mpr ⟨(coX14_201 l), List.forall_mem_cons.mpr ⟨(coX14_207 l), List.forall_mem_cons.mpr ⟨(coX14_204 l), q_nil⟩⟩⟩, q_nil, q_nil, q_nil, q_nil, q_nil, (fun h => absurd h (by decide))⟩
set_option maxRecDepth 100000 in
set_option maxHeartbeats 4000000 in
theorem ctX14_readWhole (l : Launch) : q_CT l yX14_readWhole (.code yX14_readWhole cX14_readWhole 4 (some .int)) 2 0 0 spX14_readWhole := by
  refine q_ct_of EX14_readWhole (by decide +kernel) (okX14_readWhole l) rfl rfl rfl rfl rfl q_nil (fun ci h => by cases h) rfl ?_
  intro a w K h
  obtain ⟨th, tr, wh, fa, ta, td, pn, mk, mo, sn, bo, jn, qn, cn, n, Q, bk, tx, sk, sp, B, R, L, G, lo, hi, rfl, rfl, hn, hQ, hbk, hK⟩ := h
  rcases hbk with rfl | rfl | rfl
  · refine ⟨Nat.le_of_ble_eq_true rfl, fun C hC => hC _ _ _ _ _ _ ?_⟩
    refine And.intro (fun c => ⟨_, lo, hi, rfl, rfl, And.intro (fun c2 => ?_) (fun c2 => ?_)⟩) (fun c => ?_)
    · rw [show whF tx n Q lo hi = .inr (Q.2.2.2.1, nxF tx n Q) by unfold whF; rw [if_pos c, if_pos (bI_n0.mp c2)]] at hK
      exact ⟨_, _, _, _, _, _, _, _, _, _, _, _, _, _, _, _, _, _, rfl, rfl, hn, hQ, (by first | exact Or.inl rfl | exact Or.inr rfl), hK⟩
    · rw [show whF tx n Q lo hi = .inl 4 by unfold whF; rw [if_pos c, if_neg (by rw [bI_0.mp c2]; decide)]] at hK
      exact ⟨_, _, _, _, _, _, _, _, _, _, _, _, _, _, _, _, _, _, _, _, _, rfl, rfl, hK⟩
    · rw [show whF tx n Q lo hi = .inl 1 by unfold whF; rw [if_neg c]] at hK
      exact ⟨_, _, _, _, _, _, _, _, _, _, _, _, _, _, _, _, _, _, _, _, _, rfl, rfl, hK⟩
  · refine ⟨Nat.le_of_ble_eq_true rfl, fun C hC => hC _ _ _ _ _ _ ?_⟩
    refine And.intro (fun c => ⟨_, lo, hi, rfl, rfl, And.intro (fun c2 => ?_) (fun c2 => ?_)⟩) (fun c => ?_)
    · rw [show whF tx n Q lo hi = .inr (Q.2.2.2.1, nxF tx n Q) by unfold whF; rw [if_pos c, if_pos (bI_n0.mp c2)]] at hK
      exact ⟨_, _, _, _, _, _, _, _, _, _, _, _, _, _, _, _, _, _, rfl, rfl, hn, hQ, (by first | exact Or.inl rfl | exact Or.inr rfl), hK⟩
    · rw [show whF tx n Q lo hi = .inl 4 by unfold whF; rw [if_pos c, if_neg (by rw [bI_0.mp c2]; decide)]] at hK
      exact ⟨_, _, _, _, _, _, _, _, _, _, _, _, _, _, _, _, _, _, _, _, _, rfl, rfl, hK⟩
    · rw [show whF tx n Q lo hi = .inl 1 by unfold whF; rw [if_neg c]] at hK
      exact ⟨_, _, _, _, _, _, _, _, _, _, _, _, _, _, _, _, _, _, _, _, _, rfl, rfl, hK⟩
  · refine ⟨Nat.le_of_ble_eq_true rfl, fun C hC => hC _ _ _ _ _ _ ?_⟩
    refine And.intro (fun c => ⟨_, lo, hi, rfl, rfl, And.intro (fun c2 => ?_) (fun c2 => ?_)⟩) (fun c => ?_)
    · rw [show whF tx n Q lo hi = .inr (Q.2.2.2.1, nxF tx n Q) by unfold whF; rw [if_pos c, if_pos (bI_n0.mp c2)]] at hK
      exact ⟨_, _, _, _, _, _, _, _, _, _, _, _, _, _, _, _, _, _, rfl, rfl, hn, hQ, (by first | exact Or.inl rfl | exact Or.inr rfl), hK⟩
    · rw [show whF tx n Q lo hi = .inl 4 by unfold whF; rw [if_pos c, if_neg (by rw [bI_0.mp c2]; decide)]] at hK
      exact ⟨_, _, _, _, _, _, _, _, _, _, _, _, _, _, _, _, _, _, _, _, _, rfl, rfl, hK⟩
    · rw [show whF tx n Q lo hi = .inl 1 by unfold whF; rw [if_neg c]] at hK
      exact ⟨_, _, _, _, _, _, _, _, _, _, _, _, _, _, _, _, _, _, _, _, _, rfl, rfl, hK⟩
def tdF (tx : Nat → Int32) (n : Nat) (B : BT) (Q : QT) (s : Int32) : Int32 ⊕ (Int32 × QT) := if isNM Q = true then (match fstO (fun i => decide (B.2.1 i = Q.2.2.2.2)) 0 B.2.2.2.2 with | none => .inl 2 | some k => if B.2.2.1 k = s then .inr (B.2.2.2.1 k, nxF tx n Q) else .inl 2) else .inl 1
def tX14_readTold : List q_I := [(0, .aload_n 0, 1, 0, 0), (1, .invokevirtual 211, 3, 0, 0), (4, .ifCond .ne 9, 3, 0, 13), (7, .aload_n 0, 1, 0, 0), (8, .iconst 1, 1, 1, 0), (9, .invokevirtual 201, 3, 0, 0), (12, .athrow, 1, 0, 0), (13, .aload_n 0, 1, 0, 0), (14, .getfield 215, 3, 0, 0), (17, .aload_n 0, 1, 0, 0), (18, .getfield 165, 3, 0, 0), (21, .invokevirtual 219, 3, 0, 0), (24, .istore_n 2, 1, 0, 0), (25, .iload_n 2, 1, 0, 0), (26, .iconst (-1), 1, (-1), 0), (27, .if_icmp .eq 16, 3, 0, 43), (30, .aload_n 0, 1, 0, 0), (31, .getfield 215, 3, 0, 0), (34, .getfield 225, 3, 0, 0), (37, .iload_n 2, 1, 0, 0), (38, .iaload, 1, 0, 0), (39, .iload_n 1, 1, 0, 0), (40, .if_icmp .eq 9, 3, 0, 49), (43, .aload_n 0, 1, 0, 0), (44, .iconst 2, 1, 2, 0), (45, .invokevirtual 201, 3, 0, 0), (48, .athrow, 1, 0, 0), (49, .aload_n 0, 1, 0, 0), (50, .getfield 215, 3, 0, 0), (53, .getfield 227, 3, 0, 0), (56, .iload_n 2, 1, 0, 0), (57, .iaload, 1, 0, 0), (58, .istore_n 3, 1, 0, 0), (59, .aload_n 0, 1, 0, 0), (60, .invokevirtual 204, 3, 0, 0), (63, .iload_n 3, 1, 0, 0), (64, .ireturn, 1, 0, 0)]
theorem tX14_readTold_ok : (tX14_readTold.all (q_okI cX14_readTold)) = true := by decide +kernel

abbrev fdX14_readTold : List (Nat ⊕ (Nat × Nat)) := [.inl 0, .inr (0, 7), .inr (0, 6), .inr (0, 5), .inr (3, 0), .inr (3, 1), .inr (3, 2), .inr (3, 3), .inr (3, 8), .inr (3, 9), .inr (3, 10), .inr (3, 11), .inr (3, 12), .inr (3, 13), .inr (3, 14), .inr (3, 15), .inr (3, 16), .inr (3, 17), .inr (3, 18), .inr (3, 19), .inr (3, 20), .inr (3, 21), .inr (3, 22), .inr (3, 23), .inr (3, 24), .inr (3, 25), .inr (3, 26), .inr (3, 27), .inr (3, 28)]
def spX14_readTold : q_P := fun a w K => ∃ (th : Int32) (tr : Int32) (wh : Int32) (fa : Int32) (ta : Int32) (td : Int32) (pn : Int32) (mk : Int32) (mo : Int32) (sn : Int32) (bo : Int32) (jn : Int32) (qn : Int32) (cn : Int32) (n : Nat) (Q : QT) (bk : Value) (tx : Nat → Int32) (sk : Int32) (sp : Int32) (B : BT) (R : RT) (L : LT) (G : GT) (s : Int32), w = (modelZ th tr wh fa ta td pn mk mo sn bo jn qn cn n Q bk tx sk sp B R L G) ∧ a = [.ref 0, .int s] ∧ n ≤ 700 ∧ Q.1 ≤ n ∧ bkZ bk ∧ B.2.2.2.2 ≤ 25 ∧ (match tdF tx n B Q s with | .inl k => K (.inr (.ref 2)) (modelZ th tr wh fa ta td pn mk mo sn bo jn qn cn n Q bk tx (k) (nI Q.2.2.1) B R L G) | .inr (v, Q') => K (.inl (some (.int v))) (modelZ th tr wh fa ta td pn mk mo sn bo jn qn cn n (Q') bk tx sk sp B R L G))
abbrev csX14_readTold : q_S := (2, 14, 7, 4, 0, 0, fdX14_readTold, spX14_readTold)
theorem coX14_211 (l : Launch) : q_CO l RX14 211 csX14_isName := ⟨yX14_isName, cX14_isName, (some .boolean), 0, ⟨by decide +kernel, by decide +kernel, by decide +kernel⟩, q_G_i 17 (by decide +kernel) rfl, Or.inl ⟨by decide, rfl, rfl, q_G_i 1611 (by decide +kernel) rfl, q_G_i 1613 (by decide +kernel) rfl, q_G_s (n := 53) 56 (by decide +kernel), Or.inl ⟨q_G_i 1614 (by decide +kernel) rfl, ctX14_isName l⟩⟩⟩
theorem coX14_219 (l : Launch) : q_CO l RX14 219 csX12_find := ⟨yX12_find, cX12_find, (some .int), 1, ⟨by decide +kernel, by decide +kernel, by decide +kernel⟩, q_G_i 23 (by decide +kernel) rfl, Or.inl ⟨by decide, rfl, rfl, q_G_i 1624 (by decide +kernel) rfl, q_G_i 1625 (by decide +kernel) rfl, q_G_i 1626 (by decide +kernel) rfl, Or.inl ⟨q_G_i 1627 (by decide +kernel) rfl, ctX12_find l⟩⟩⟩
def EX14_readTold : q_E := (tX14_readTold, [], 4, flX14, [(211, csX14_isName), (201, csX14_stop), (219, csX12_find), (204, csX14_next)], [], [], [], [], [], 7, 0, 0, (some .int), [], [], 0, 0)
theorem okX14_readTold (l : Launch) : q_Eok l RX14 cX14_readTold EX14_readTold := ⟨tX14_readTold_ok, flX14_ok, List.forall_mem_cons.mpr ⟨(coX14_211 l), List.forall_mem_cons.mpr ⟨(coX14_201 l), List.forall_mem_cons.mpr ⟨(coX14_219 l), List.forall_mem_cons.mpr ⟨(coX14_204 l), q_nil⟩⟩⟩⟩, q_nil, q_nil, q_nil, q_nil, q_nil, (fun h => absurd h (by decide))⟩
set_option maxRecDepth 100000 in
set_option maxHeartbeats 4000000 in
theorem ctX14_readTold (l : Launch) : q_CT l yX14_readTold (.code yX14_readTold cX14_readTold 4 (some .int)) 7 0 0 spX14_readTold := by
  refine q_ct_of EX14_readTold (by decide +kernel) (okX14_readTold l) rfl rfl rfl rfl rfl q_nil (fun ci h => by cases h) rfl ?_
  intro a w K h
  obtain ⟨th, tr, wh, fa, ta, td, pn, mk, mo, sn, bo, jn, qn, cn, n, Q, bk, tx, sk, sp, B, R, L, G, s, rfl, rfl, hn, hQ, hbk, hB, hK⟩ := h
  rcases hbk with rfl | rfl | rfl
  · refine ⟨Nat.le_of_ble_eq_true rfl, fun C hC => hC _ _ _ _ _ _ ?_⟩
    refine ⟨_, _, _, _, _, _, _, _, _, _, _, _, _, _, _, _, _, rfl, rfl, (by first | exact Or.inl rfl | exact Or.inr rfl), And.intro (fun c => ?_) (fun c => ?_)⟩
    · refine ⟨B, R, L, G, _, rfl, rfl, hB, ?_⟩
      rcases hf : fstO (fun i => decide (B.2.1 i = Q.2.2.2.2)) 0 B.2.2.2.2 with _ | k
      · rw [show tdF tx n B Q s = .inl 2 by unfold tdF; rw [if_pos (bI_n0.mp c), hf]] at hK
        exact And.intro (fun _ => ⟨_, _, _, _, _, _, _, _, _, _, _, _, _, _, _, _, _, _, _, _, _, rfl, rfl, hK⟩) (fun z => absurd rfl z)
      · have hk := (fstO_lt2 hf).2
        have hv : vp_in (oI (some k)) 25 := vp_in_nI (by omega) (by omega)
        have hc : (oI (some k)).toNatClampNeg = k := nI_clamp (by omega)
        refine And.intro (fun z => absurd z (nI_nm1 (by omega))) (fun _ => ⟨hv, And.intro (fun c2 => ⟨hv, ?_⟩) (fun c2 => ?_)⟩)
        · rw [hc] at c2
          rw [show tdF tx n B Q s = .inr (B.2.2.2.1 k, nxF tx n Q) by unfold tdF; rw [if_pos (bI_n0.mp c), hf]; exact if_pos c2] at hK
          rw [hc]
          exact ⟨_, _, _, _, _, _, _, _, _, _, _, _, _, _, _, _, _, _, rfl, rfl, hn, hQ, (by first | exact Or.inl rfl | exact Or.inr rfl), hK⟩
        · rw [hc] at c2
          rw [show tdF tx n B Q s = .inl 2 by unfold tdF; rw [if_pos (bI_n0.mp c), hf]; exact if_neg c2] at hK
          exact ⟨_, _, _, _, _, _, _, _, _, _, _, _, _, _, _, _, _, _, _, _, _, rfl, rfl, hK⟩
    · rw [show tdF tx n B Q s = .inl 1 by unfold tdF; rw [if_neg (by rw [bI_0.mp c]; decide)]] at hK
      exact ⟨_, _, _, _, _, _, _, _, _, _, _, _, _, _, _, _, _, _, _, _, _, rfl, rfl, hK⟩
  · refine ⟨Nat.le_of_ble_eq_true rfl, fun C hC => hC _ _ _ _ _ _ ?_⟩
    refine ⟨_, _, _, _, _, _, _, _, _, _, _, _, _, _, _, _, _, rfl, rfl, (by first | exact Or.inl rfl | exact Or.inr rfl), And.intro (fun c => ?_) (fun c => ?_)⟩
    · refine ⟨B, R, L, G, _, rfl, rfl, hB, ?_⟩
      rcases hf : fstO (fun i => decide (B.2.1 i = Q.2.2.2.2)) 0 B.2.2.2.2 with _ | k
      · rw [show tdF tx n B Q s = .inl 2 by unfold tdF; rw [if_pos (bI_n0.mp c), hf]] at hK
        exact And.intro (fun _ => ⟨_, _, _, _, _, _, _, _, _, _, _, _, _, _, _, _, _, _, _, _, _, rfl, rfl, hK⟩) (fun z => absurd rfl z)
      · have hk := (fstO_lt2 hf).2
        have hv : vp_in (oI (some k)) 25 := vp_in_nI (by omega) (by omega)
        have hc : (oI (some k)).toNatClampNeg = k := nI_clamp (by omega)
        refine And.intro (fun z => absurd z (nI_nm1 (by omega))) (fun _ => ⟨hv, And.intro (fun c2 => ⟨hv, ?_⟩) (fun c2 => ?_)⟩)
        · rw [hc] at c2
          rw [show tdF tx n B Q s = .inr (B.2.2.2.1 k, nxF tx n Q) by unfold tdF; rw [if_pos (bI_n0.mp c), hf]; exact if_pos c2] at hK
          rw [hc]
          exact ⟨_, _, _, _, _, _, _, _, _, _, _, _, _, _, _, _, _, _, rfl, rfl, hn, hQ, (by first | exact Or.inl rfl | exact Or.inr rfl), hK⟩
        · rw [hc] at c2
          rw [show tdF tx n B Q s = .inl 2 by unfold tdF; rw [if_pos (bI_n0.mp c), hf]; exact if_neg c2] at hK
          exact ⟨_, _, _, _, _, _, _, _, _, _, _, _, _, _, _, _, _, _, _, _, _, rfl, rfl, hK⟩
    · rw [show tdF tx n B Q s = .inl 1 by unfold tdF; rw [if_neg (by rw [bI_0.mp c]; decide)]] at hK
      exact ⟨_, _, _, _, _, _, _, _, _, _, _, _, _, _, _, _, _, _, _, _, _, rfl, rfl, hK⟩
  · refine ⟨Nat.le_of_ble_eq_true rfl, fun C hC => hC _ _ _ _ _ _ ?_⟩
    refine ⟨_, _, _, _, _, _, _, _, _, _, _, _, _, _, _, _, _, rfl, rfl, (by first | exact Or.inl rfl | exact Or.inr rfl), And.intro (fun c => ?_) (fun c => ?_)⟩
    · refine ⟨B, R, L, G, _, rfl, rfl, hB, ?_⟩
      rcases hf : fstO (fun i => decide (B.2.1 i = Q.2.2.2.2)) 0 B.2.2.2.2 with _ | k
      · rw [show tdF tx n B Q s = .inl 2 by unfold tdF; rw [if_pos (bI_n0.mp c), hf]] at hK
        exact And.intro (fun _ => ⟨_, _, _, _, _, _, _, _, _, _, _, _, _, _, _, _, _, _, _, _, _, rfl, rfl, hK⟩) (fun z => absurd rfl z)
      · have hk := (fstO_lt2 hf).2
        have hv : vp_in (oI (some k)) 25 := vp_in_nI (by omega) (by omega)
        have hc : (oI (some k)).toNatClampNeg = k := nI_clamp (by omega)
        refine And.intro (fun z => absurd z (nI_nm1 (by omega))) (fun _ => ⟨hv, And.intro (fun c2 => ⟨hv, ?_⟩) (fun c2 => ?_)⟩)
        · rw [hc] at c2
          rw [show tdF tx n B Q s = .inr (B.2.2.2.1 k, nxF tx n Q) by unfold tdF; rw [if_pos (bI_n0.mp c), hf]; exact if_pos c2] at hK
          rw [hc]
          exact ⟨_, _, _, _, _, _, _, _, _, _, _, _, _, _, _, _, _, _, rfl, rfl, hn, hQ, (by first | exact Or.inl rfl | exact Or.inr rfl), hK⟩
        · rw [hc] at c2
          rw [show tdF tx n B Q s = .inl 2 by unfold tdF; rw [if_pos (bI_n0.mp c), hf]; exact if_neg c2] at hK
          exact ⟨_, _, _, _, _, _, _, _, _, _, _, _, _, _, _, _, _, _, _, _, _, rfl, rfl, hK⟩
    · rw [show tdF tx n B Q s = .inl 1 by unfold tdF; rw [if_neg (by rw [bI_0.mp c]; decide)]] at hK
      exact ⟨_, _, _, _, _, _, _, _, _, _, _, _, _, _, _, _, _, _, _, _, _, rfl, rfl, hK⟩
