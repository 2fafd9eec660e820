def kb (t : Nat) : List Int32 := ((q_str[t]?).map (fun x => x.2.2.2)).getD []
def wlF (l : List Int32) : Nat → Int64
  | 0 => 0
  | k + 1 => 32 * wlF l k + (l.getD k 0 - 97 + 1).toInt64
def wv (t : Nat) : Int64 := wlF (kb t) (kb t).length
/-- the words that are no names, as the constructor lays them -/
def rsv : Nat → Int64 := vp_updL (vp_updL (vp_updL (vp_updL (vp_updL (vp_updL (vp_updL (vp_updL (vp_updL (vp_updL (fun _ => 0) 0 (wv 1)) 1 (wv 2)) 2 (wv 3)) 3 (wv 4)) 4 (wv 5)) 5 (wv 0)) 6 (wv 6)) 7 (wv 7)) 8 (wv 8)) 9 (wv 9)
/-- fault, faultPlace, end, knownFrom, lawsAlone, token, start, next, word, whole -/
abbrev NT : Type := Int32 × Int32 × Nat × Int32 × Int32 × Int32 × Nat × Nat × Int64 × Int32
def readW (o : Nat) (bk : Value) (tx : Nat → Int32) (N : NT) : List q_C := [.inr (7, [.int N.1, .int N.2.1, .ref (o + 1), .ref (o + 2), .int (nI N.2.2.1), bk, .int N.2.2.2.1, .int N.2.2.2.2.1, .int N.2.2.2.2.2.1, .int (nI N.2.2.2.2.2.2.1), .int (nI N.2.2.2.2.2.2.2.1), .long N.2.2.2.2.2.2.2.2.1, .int N.2.2.2.2.2.2.2.2.2]), .inl (2, 10, .inr rsv), .inl (0, 700, .inl tx)]
def nOk (N : NT) : Prop := N.2.2.1 ≤ 700 ∧ N.2.2.2.2.2.2.1 ≤ N.2.2.2.2.2.2.2.1 ∧ N.2.2.2.2.2.2.2.1 ≤ N.2.2.1
def nUp (N : NT) : NT := (N.1, N.2.1, N.2.2.1, N.2.2.2.1, N.2.2.2.2.1, N.2.2.2.2.2.1, 0, N.2.2.2.2.2.2.2)
theorem nOk.s {N : NT} (h : nOk N) : nOk (nUp N) := ⟨h.1, Nat.zero_le _, h.2.2⟩
def failAtF (N : NT) (x p : Int32) : NT := (x, p, N.2.2)
def failF (N : NT) (x : Int32) : NT := (x, nI N.2.2.2.2.2.2.1, N.2.2)

def tX7_failAt : List q_I := [(0, .aload_n 0, 1, 0, 0), (1, .iload_n 1, 1, 0, 0), (2, .putfield 64, 3, 0, 0), (5, .aload_n 0, 1, 0, 0), (6, .iload_n 2, 1, 0, 0), (7, .putfield 67, 3, 0, 0), (10, .iconst 0, 1, 0, 0), (11, .ireturn, 1, 0, 0)]
theorem tX7_failAt_ok : (tX7_failAt.all (q_okI cX7_failAt)) = true := by decide +kernel

abbrev fdX7_failAt : List (Nat ⊕ (Nat × Nat)) := [.inl 0, .inr (0, 2), .inr (0, 3)]
def spX7_failAt : q_P := fun a w K => ∃ (tx : Nat → Int32) (N : NT) (x p : Int32), w = readW 0 (tk 0 5) tx N ∧ a = [.ref 0, .int x, .int p] ∧ K (.inl (some (.int 0))) (readW 0 (tk 0 5) tx (failAtF N x p))
abbrev csX7_failAt : q_S := (3, 7, 0, 3, 0, 0, fdX7_failAt, spX7_failAt)
def EX7_failAt : q_E := (tX7_failAt, [], 3, flX7, [], [], [], [], [], [], 0, 0, 0, (some .boolean), [], [], 0, 0)
theorem okX7_failAt (l : Launch) : q_Eok l RX7 cX7_failAt EX7_failAt := ⟨tX7_failAt_ok, flX7_ok, q_nil, q_nil, q_nil, q_nil, q_nil, q_nil, (fun h => absurd h (by decide))⟩
set_option maxRecDepth 100000 in
set_option maxHeartbeats 4000000 in
theorem ctX7_failAt (l : Launch) : q_CT l yX7_failAt (.code yX7_failAt cX7_failAt 3 (some .boolean)) 0 0 0 spX7_failAt := by
  refine q_ct_of EX7_failAt (by decide +kernel) (okX7_failAt l) rfl rfl rfl rfl rfl q_nil (fun ci h => by cases h) rfl ?_
  intro a w K h
  obtain ⟨tx, N, x, p, rfl, rfl, hK⟩ := h
  refine ⟨Nat.le_of_ble_eq_true rfl, fun C hC => hC _ _ _ _ _ _ ?_⟩
  exact ⟨rfl, hK⟩
def tX7_fail : List q_I := [(0, .aload_n 0, 1, 0, 0), (1, .iload_n 1, 1, 0, 0), (2, .aload_n 0, 1, 0, 0), (3, .getfield 135, 3, 0, 0), (6, .invokevirtual 138, 3, 0, 0), (9, .ireturn, 1, 0, 0)]
theorem tX7_fail_ok : (tX7_fail.all (q_okI cX7_fail)) = true := by decide +kernel

abbrev fdX7_fail : List (Nat ⊕ (Nat × Nat)) := [.inl 0, .inr (0, 2), .inr (0, 3)]
def spX7_fail : q_P := fun a w K => ∃ (tx : Nat → Int32) (N : NT) (x : Int32), w = readW 0 (tk 0 5) tx N ∧ a = [.ref 0, .int x] ∧ K (.inl (some (.int 0))) (readW 0 (tk 0 5) tx (failF N x))
abbrev csX7_fail : q_S := (2, 7, 1, 2, 0, 0, fdX7_fail, spX7_fail)
theorem coX7_138 (l : Launch) : q_CO l RX7 138 csX7_failAt := ⟨yX7_failAt, cX7_failAt, (some .boolean), 2, ⟨by decide +kernel, by decide +kernel, by decide +kernel⟩, q_G_i 6 (by decide +kernel) rfl, Or.inl ⟨by decide, rfl, rfl, q_G_i 604 (by decide +kernel) rfl, q_G_i 606 (by decide +kernel) rfl, q_G_s (n := 13) 9 (by decide +kernel), Or.inl ⟨q_G_i 607 (by decide +kernel) rfl, ctX7_failAt l⟩⟩⟩
def EX7_fail : q_E := (tX7_fail, [], 2, flX7, [(138, csX7_failAt)], [], [], [], [], [], 1, 0, 0, (some .boolean), [], [], 0, 0)
theorem okX7_fail (l : Launch) : q_Eok l RX7 cX7_fail EX7_fail := ⟨tX7_fail_ok, flX7_ok, List.forall_mem_cons.mpr ⟨(coX7_138 l), q_nil⟩, q_nil, q_nil, q_nil, q_nil, q_nil, (fun h => absurd h (by decide))⟩
set_option maxRecDepth 100000 in
set_option maxHeartbeats 4000000 in
theorem ctX7_fail (l : Launch) : q_CT l yX7_fail (.code yX7_fail cX7_fail 2 (some .boolean)) 1 0 0 spX7_fail := by
  refine q_ct_of EX7_fail (by decide +kernel) (okX7_fail l) rfl rfl rfl rfl rfl q_nil (fun ci h => by cases h) rfl ?_
  intro a w K h
  obtain ⟨tx, N, x, rfl, rfl, hK⟩ := h
  refine ⟨Nat.le_of_ble_eq_true rfl, fun C hC => hC _ _ _ _ _ _ ?_⟩
  exact ⟨tx, N, _, _, rfl, rfl, rfl, hK⟩
def seeB (tx : Nat → Int32) (N : NT) (bs : List Int32) : Bool := decide (N.2.2.2.2.2.1 = 1) && (decide (nI N.2.2.2.2.2.2.2.1 - nI N.2.2.2.2.2.2.1 = nI bs.length) && allF (fun i => decide (tx (N.2.2.2.2.2.2.1 + i) = bs.getD i 0)) 0 bs.length)
def tX7_sees : List q_I := [(0, .aload_n 0, 1, 0, 0), (1, .getfield 80, 3, 0, 0), (4, .iconst 1, 1, 1, 0), (5, .if_icmp .ne 19, 3, 0, 24), (8, .aload_n 0, 1, 0, 0), (9, .getfield 70, 3, 0, 0), (12, .aload_n 0, 1, 0, 0), (13, .getfield 135, 3, 0, 0), (16, .isub, 1, 0, 0), (17, .aload_n 1, 1, 0, 0), (18, .invokevirtual 222, 3, 0, 0), (21, .if_icmp .eq 5, 3, 0, 26), (24, .iconst 0, 1, 0, 0), (25, .ireturn, 1, 0, 0), (26, .iconst 0, 1, 0, 0), (27, .istore_n 2, 1, 0, 0), (28, .iload_n 2, 1, 0, 0), (29, .aload_n 1, 1, 0, 0), (30, .invokevirtual 222, 3, 0, 0), (33, .if_icmp .ge 30, 3, 0, 63), (36, .aload_n 0, 1, 0, 0), (37, .getfield 39, 3, 0, 0), (40, .aload_n 0, 1, 0, 0), (41, .getfield 135, 3, 0, 0), (44, .iload_n 2, 1, 0, 0), (45, .iadd, 1, 0, 0), (46, .baload, 1, 0, 0), (47, .aload_n 1, 1, 0, 0), (48, .iload_n 2, 1, 0, 0), (49, .invokevirtual 228, 3, 0, 0), (52, .if_icmp .eq 5, 3, 0, 57), (55, .iconst 0, 1, 0, 0), (56, .ireturn, 1, 0, 0), (57, .iinc 2 1, 3, 1, 0), (60, .goto (-32), 3, 0, 28), (63, .iconst 1, 1, 1, 0), (64, .ireturn, 1, 0, 0)]
theorem tX7_sees_ok : (tX7_sees.all (q_okI cX7_sees)) = true := by decide +kernel

abbrev fdX7_sees : List (Nat ⊕ (Nat × Nat)) := [.inl 0, .inr (0, 2), .inr (0, 3)]
def spX7_sees : q_P := fun a w K => ∃ (tx : Nat → Int32) (N : NT) (t : Nat) (x : String × Nat × String × List Int32), w = readW 0 (tk 0 5) tx N ∧ a = [.ref 0, .retAddr t] ∧ q_str[t]? = some x ∧ nOk N ∧ K (.inl (some (.int (bI (seeB tx N x.2.2.2))))) (readW 0 (tk 0 5) tx N)
abbrev csX7_sees : q_S := (2, 7, 4, 3, 0, 0, fdX7_sees, spX7_sees)
theorem coX7_222 (l : Launch) : q_CO l RX7 222 csJ0_length_8abf5 := ⟨yJ0_length_8abf5, cJ0_length_8abf5, (some .int), 0, ⟨by decide +kernel, by decide +kernel, by decide +kernel⟩, q_G_i 7 (by decide +kernel) rfl, Or.inr (Or.inr (Or.inl ⟨rfl, rfl, rfl, q_G_i 211 (by decide +kernel) rfl, q_G_i 212 (by decide +kernel) rfl, q_G_i 213 (by decide +kernel) rfl, q_G_i 214 (by decide +kernel) rfl, ctJ0_length_8abf5 l⟩))⟩
theorem coX7_228 (l : Launch) : q_CO l RX7 228 csJ0_charAt_5068e := ⟨yJ0_charAt_5068e, cJ0_charAt_5068e, (some .char), 1, ⟨by decide +kernel, by decide +kernel, by decide +kernel⟩, q_G_i 7 (by decide +kernel) rfl, Or.inr (Or.inr (Or.inl ⟨rfl, rfl, rfl, q_G_i 222 (by decide +kernel) rfl, q_G_i 223 (by decide +kernel) rfl, q_G_i 224 (by decide +kernel) rfl, q_G_i 225 (by decide +kernel) rfl, ctJ0_charAt_5068e l⟩))⟩
def EX7_sees : q_E := (tX7_sees, [(28, [0, 1, 2])], 3, flX7, [(222, csJ0_length_8abf5), (228, csJ0_charAt_5068e)], [], [], [], [], [], 4, 0, 0, (some .boolean), [], [], 0, 0)
theorem okX7_sees (l : Launch) : q_Eok l RX7 cX7_sees EX7_sees := ⟨tX7_sees_ok, flX7_ok, List.forall_mem_cons.mpr ⟨(coX7_222 l), List.forall_mem_cons.mpr ⟨(coX7_228 l), q_nil⟩⟩, q_nil, q_nil, q_nil, q_nil, q_nil, (fun h => absurd h (by decide))⟩
set_option maxRecDepth 100000 in
set_option maxHeartbeats 4000000 in
theorem ctX7_sees (l : Launch) : q_CT l yX7_sees (.code yX7_sees cX7_sees 3 (some .boolean)) 4 0 0 spX7_sees := by
  refine q_ct_of EX7_sees (by decide +kernel) (okX7_sees l) rfl rfl rfl rfl rfl q_nil (fun ci h => by cases h) rfl ?_
  intro a w K h
  obtain ⟨tx, N, t, x, rfl, rfl, hx, ⟨n1, n2, n3⟩, hK⟩ := h
  have ht := q_str_lt hx
  have hn := q_str_n x (List.mem_of_getElem? hx)
  refine ⟨Nat.le_of_ble_eq_true rfl, fun C hC => hC _ _ _ _ _ _ ?_⟩
  refine And.intro (fun c => ⟨rfl, ?_⟩) (fun c => ?_)
  · have c : ¬ N.2.2.2.2.2.1 = 1 := c
    rw [seeB, decide_eq_false c, Bool.false_and] at hK; exact hK
  · have c : N.2.2.2.2.2.1 = 1 := c
    rw [seeB, decide_eq_true c, Bool.true_and] at hK
    refine ⟨ht, by omega, t, x, rfl, rfl, hx, And.intro (fun c2 => ?_) (fun c2 => ⟨rfl, ?_⟩)⟩
    · have c2 : nI N.2.2.2.2.2.2.2.1 - nI N.2.2.2.2.2.2.1 = nI x.2.2.2.length := c2
      rw [decide_eq_true c2, Bool.true_and] at hK
      have e9 : N.2.2.2.2.2.2.2.1 - N.2.2.2.2.2.2.1 = x.2.2.2.length := by
        rw [pk_sub n2] at c2
        have := congrArg Int32.toNatClampNeg c2
        rw [nI_clamp (by omega), nI_clamp (by omega)] at this
        exact this
      have loop : ∀ k i, i + k = x.2.2.2.length → K (.inl (some (.int (bI (allF (fun i => decide (tx (N.2.2.2.2.2.2.1 + i) = x.2.2.2.getD i 0)) i k))))) (readW 0 (tk 0 5) tx N) → C 28 [(0, .ref 0), (1, .retAddr t), (2, .int (nI i))] [] (readW 0 (tk 0 5) tx N) 0 0 := by
        intro k
        induction k with
        | zero =>
          intro i hi hK
          refine hC _ _ _ _ _ _ ?_
          refine ⟨ht, by omega, t, x, rfl, rfl, hx, And.intro (fun c3 => ⟨rfl, hK⟩) (fun c3 => absurd (nI_le (by omega) (by omega)) c3)⟩
        | succ k ih =>
          intro i hi hK
          have e2 : nI N.2.2.2.2.2.2.1 + nI i = nI (N.2.2.2.2.2.2.1 + i) := nI_add _ _
          have hv : vp_in (nI N.2.2.2.2.2.2.1 + nI i) 700 := by rw [e2]; exact vp_in_nI (by omega) (by omega)
          have hc : (nI N.2.2.2.2.2.2.1 + nI i).toNatClampNeg = N.2.2.2.2.2.2.1 + i := by rw [e2]; exact nI_clamp (by omega)
          refine hC _ _ _ _ _ _ ?_
          refine ⟨ht, by omega, t, x, rfl, rfl, hx, And.intro (fun c3 => absurd c3 (nI_ge (b := x.2.2.2.length) (by omega) (by omega))) (fun c3 => ⟨hv, ht, by omega, t, i, x, rfl, rfl, hx, by omega, And.intro (fun c4 => ?_) (fun c4 => ⟨rfl, ?_⟩)⟩)⟩
          · have c4 : tx (nI N.2.2.2.2.2.2.1 + nI i).toNatClampNeg = x.2.2.2.getD i 0 := c4
            rw [hc] at c4
            rw [allF, decide_eq_true c4, Bool.true_and] at hK
            have h9 := ih (i + 1) (by omega) hK
            rw [← nI_1 i] at h9
            exact h9
          · have c4 : ¬ tx (nI N.2.2.2.2.2.2.1 + nI i).toNatClampNeg = x.2.2.2.getD i 0 := c4
            rw [hc] at c4
            rw [allF, decide_eq_false c4, Bool.false_and] at hK
            exact hK
      exact loop x.2.2.2.length 0 (by omega) hK
    · have c2 : ¬ nI N.2.2.2.2.2.2.2.1 - nI N.2.2.2.2.2.2.1 = nI x.2.2.2.length := c2
      rw [decide_eq_false c2, Bool.false_and] at hK; exact hK
def tX7_numberOf : List q_I := [(0, .lconst 0, 1, 0, 0), (1, .lstore_n 1, 1, 0, 0), (2, .iconst 0, 1, 0, 0), (3, .istore_n 3, 1, 0, 0), (4, .iload_n 3, 1, 0, 0), (5, .aload_n 0, 1, 0, 0), (6, .invokevirtual 222, 3, 0, 0), (9, .if_icmp .ge 27, 3, 0, 36), (12, .lload_n 1, 1, 0, 0), (13, .ldc2_w 232, 3, 0, 0), (16, .lmul, 1, 0, 0), (17, .aload_n 0, 1, 0, 0), (18, .iload_n 3, 1, 0, 0), (19, .invokevirtual 228, 3, 0, 0), (22, .bipush 97, 2, 97, 0), (24, .isub, 1, 0, 0), (25, .iconst 1, 1, 1, 0), (26, .iadd, 1, 0, 0), (27, .i2l, 1, 0, 0), (28, .ladd, 1, 0, 0), (29, .lstore_n 1, 1, 0, 0), (30, .iinc 3 1, 3, 1, 0), (33, .goto (-29), 3, 0, 4), (36, .lload_n 1, 1, 0, 0), (37, .lreturn, 1, 0, 0)]
theorem tX7_numberOf_ok : (tX7_numberOf.all (q_okI cX7_numberOf)) = true := by decide +kernel

abbrev fdX7_numberOf : List (Nat ⊕ (Nat × Nat)) := []
def spX7_numberOf : q_P := fun a w K => ∃ (t : Nat) (x : String × Nat × String × List Int32), w = [] ∧ a = [.retAddr t] ∧ q_str[t]? = some x ∧ K (.inl (some (.long (wlF x.2.2.2 x.2.2.2.length)))) []
abbrev csX7_numberOf : q_S := (1, 99, 4, 4, 0, 0, fdX7_numberOf, spX7_numberOf)
def EX7_numberOf : q_E := (tX7_numberOf, [(4, [0, 1, 3])], 4, flX7, [(222, csJ0_length_8abf5), (228, csJ0_charAt_5068e)], [(232, 32)], [], [], [], [], 4, 0, 0, (some .long), [], [], 0, 0)
theorem okX7_numberOf (l : Launch) : q_Eok l RX7 cX7_numberOf EX7_numberOf := ⟨tX7_numberOf_ok, flX7_ok, List.forall_mem_cons.mpr ⟨(coX7_222 l), List.forall_mem_cons.mpr ⟨(coX7_228 l), q_nil⟩⟩, List.forall_mem_cons.mpr ⟨q_G_i 221 (by decide +kernel) rfl, q_nil⟩, q_nil, q_nil, q_nil, q_nil, (fun h => absurd h (by decide))⟩
set_option maxRecDepth 100000 in
set_option maxHeartbeats 4000000 in
theorem ctX7_numberOf (l : Launch) : q_CT l yX7_numberOf (.code yX7_numberOf cX7_numberOf 4 (some .long)) 4 0 0 spX7_numberOf := by
  refine q_ct_of EX7_numberOf (by decide +kernel) (okX7_numberOf l) rfl rfl rfl rfl rfl q_nil (fun ci h => by cases h) rfl ?_
  intro a w K h
  obtain ⟨t, x, rfl, rfl, hx, hK⟩ := h
  have ht := q_str_lt hx
  have hn := q_str_n x (List.mem_of_getElem? hx)
  refine ⟨Nat.le_of_ble_eq_true rfl, fun C hC => ?_⟩
  have loop : ∀ k i, i + k = x.2.2.2.length → C 4 [(0, .retAddr t), (1, .long (wlF x.2.2.2 i)), (3, .int (nI i))] [] [] 0 0 := by
    intro k
    induction k with
    | zero =>
      intro i hi
      have hi : i = x.2.2.2.length := hi
      subst hi
      exact hC _ _ _ _ _ _ ⟨ht, by omega, t, x, rfl, rfl, hx, And.intro (fun _ => hK) (fun c3 => absurd (Int32.le_refl _) c3)⟩
    | succ k ih =>
      intro i hi
      have h9 := ih (i + 1) (by omega)
      rw [wlF, Int64.mul_comm, ← nI_1 i] at h9
      exact hC _ _ _ _ _ _ ⟨ht, by omega, t, x, rfl, rfl, hx, And.intro (fun c3 => absurd c3 (nI_ge (b := x.2.2.2.length) (by omega) (by omega))) (fun c3 => ⟨ht, by omega, t, i, x, rfl, rfl, hx, by omega, h9⟩)⟩
  exact hC _ _ _ _ _ _ (loop x.2.2.2.length 0 (by omega))
def isNm (tx : Nat → Int32) (N : NT) : Bool := decide (N.2.2.2.2.2.1 = 1) && allF (fun j => decide (¬ N.2.2.2.2.2.2.2.2.1 = rsv j)) 0 10
def tX7_isName : List q_I := [(0, .aload_n 0, 1, 0, 0), (1, .getfield 80, 3, 0, 0), (4, .iconst 1, 1, 1, 0), (5, .if_icmp .ne 7, 3, 0, 12), (8, .iconst 1, 1, 1, 0), (9, .goto 4, 3, 0, 13), (12, .iconst 0, 1, 0, 0), (13, .istore_n 1, 1, 0, 0), (14, .iconst 0, 1, 0, 0), (15, .istore_n 2, 1, 0, 0), (16, .iload_n 2, 1, 0, 0), (17, .aload_n 0, 1, 0, 0), (18, .getfield 35, 3, 0, 0), (21, .arraylength, 1, 0, 0), (22, .if_icmp .ge 33, 3, 0, 55), (25, .iload_n 1, 1, 0, 0), (26, .ifCond .eq 21, 3, 0, 47), (29, .aload_n 0, 1, 0, 0), (30, .getfield 111, 3, 0, 0), (33, .aload_n 0, 1, 0, 0), (34, .getfield 35, 3, 0, 0), (37, .iload_n 2, 1, 0, 0), (38, .laload, 1, 0, 0), (39, .lcmp, 1, 0, 0), (40, .ifCond .eq 7, 3, 0, 47), (43, .iconst 1, 1, 1, 0), (44, .goto 4, 3, 0, 48), (47, .iconst 0, 1, 0, 0), (48, .istore_n 1, 1, 0, 0), (49, .iinc 2 1, 3, 1, 0), (52, .goto (-36), 3, 0, 16), (55, .iload_n 1, 1, 0, 0), (56, .ireturn, 1, 0, 0)]
theorem tX7_isName_ok : (tX7_isName.all (q_okI cX7_isName)) = true := by decide +kernel

abbrev fdX7_isName : List (Nat ⊕ (Nat × Nat)) := [.inl 0, .inr (0, 2), .inr (0, 3)]
def spX7_isName : q_P := fun a w K => ∃ (tx : Nat → Int32) (N : NT), w = readW 0 (tk 0 5) tx N ∧ a = [.ref 0] ∧ nOk N ∧ K (.inl (some (.int (bI (isNm tx N))))) (readW 0 (tk 0 5) tx N)
abbrev csX7_isName : q_S := (1, 7, 0, 3, 0, 0, fdX7_isName, spX7_isName)
def EX7_isName : q_E := (tX7_isName, [(16, [0, 1, 2])], 3, flX7, [], [], [], [], [], [], 0, 0, 0, (some .boolean), [], [], 0, 0)
theorem okX7_isName (l : Launch) : q_Eok l RX7 cX7_isName EX7_isName := ⟨tX7_isName_ok, flX7_ok, q_nil, q_nil, q_nil, q_nil, q_nil, q_nil, (fun h => absurd h (by decide))⟩
set_option maxRecDepth 100000 in
set_option maxHeartbeats 4000000 in
theorem ctX7_isName (l : Launch) : q_CT l yX7_isName (.code yX7_isName cX7_isName 3 (some .boolean)) 0 0 0 spX7_isName := by
  refine q_ct_of EX7_isName (by decide +kernel) (okX7_isName l) rfl rfl rfl rfl rfl q_nil (fun ci h => by cases h) rfl ?_
  intro a w K h
  obtain ⟨tx, N, rfl, rfl, hN, hK⟩ := h
  refine ⟨Nat.le_of_ble_eq_true rfl, fun C hC => hC _ _ _ _ _ _ ?_⟩
  have loop : ∀ k i (b : Bool), i + k = 10 → K (.inl (some (.int (bI (b && allF (fun j => decide (¬ N.2.2.2.2.2.2.2.2.1 = rsv j)) i k))))) (readW 0 (tk 0 5) tx N) → C 16 [(0, .ref 0), (1, .int (bI b)), (2, .int (nI i))] [] (readW 0 (tk 0 5) tx N) 0 0 := by
    intro k
    induction k with
    | zero =>
      intro i b hi hK
      rw [allF, Bool.and_true] at hK
      refine hC _ _ _ _ _ _ ?_
      exact ⟨Or.inr (Or.inr (Or.inl rfl)), And.intro (fun c1 => ⟨bI_nar b, hK⟩) (fun c1 => absurd (nI_le (a := 10) (b := i) (by omega) (by omega)) c1)⟩
    | succ k ih =>
      intro i b hi hK
      rw [allF] at hK
      have hc : (nI i).toNatClampNeg = i := nI_clamp (by omega)
      have hv : vp_in (nI i) 10 := vp_in_nI (by omega) (by omega)
      refine hC _ _ _ _ _ _ ?_
      refine ⟨Or.inr (Or.inr (Or.inl rfl)), And.intro (fun c1 => absurd c1 (nI_ge (a := i) (b := 10) (by omega) (by omega))) (fun c1 => And.intro (fun c2 => ?_) (fun c2 => ⟨hv, And.intro (fun c3 => ?_) (fun c3 => ?_)⟩))⟩
      · rw [bI_0.mp c2, Bool.false_and] at hK
        have h9 := ih (i + 1) false (by omega) (by rw [Bool.false_and]; exact hK)
        rw [← nI_1 i] at h9
        exact h9
      · have c3 := (lg_cmp_eq _ _).mp c3
        rw [hc] at c3
        rw [decide_eq_false (fun z => z c3), Bool.false_and, Bool.and_false] at hK
        have h9 := ih (i + 1) false (by omega) (by rw [Bool.false_and]; exact hK)
        rw [← nI_1 i] at h9
        exact h9
      · have c3 : ¬ N.2.2.2.2.2.2.2.2.1 = rsv (nI i).toNatClampNeg := fun z => c3 ((lg_cmp_eq _ _).mpr z)
        rw [hc] at c3
        rw [decide_eq_true c3, Bool.true_and, bI_n0.mp c2] at hK
        have h9 := ih (i + 1) true (by omega) hK
        rw [← nI_1 i] at h9
        exact h9
  refine And.intro (fun c => ?_) (fun c => ?_)
  · have c : ¬ N.2.2.2.2.2.1 = 1 := c
    rw [isNm, decide_eq_false c] at hK
    exact loop 10 0 false (by omega) hK
  · have c : N.2.2.2.2.2.1 = 1 := c
    rw [isNm, decide_eq_true c] at hK
    exact loop 10 0 true (by omega) hK
def skB (tx : Nat → Int32) : Nat → Nat → Nat
  | 0, i => i
  | k + 1, i => if tx i = 32 then skB tx k (i + 1) else i
def wdL (tx : Nat → Int32) : Nat → Nat → Int64 → Nat × Int64
  | 0, i, w => (i, w)
  | k + 1, i, w => if 97 ≤ tx i ∧ tx i ≤ 122 then wdL tx k (i + 1) (w * 32 + (tx i - 97 + 1).toInt64) else (i, w)
def whL (tx : Nat → Int32) : Nat → Nat → Int32 → Nat × Int32
  | 0, i, w => (i, w)
  | k + 1, i, w => if 48 ≤ tx i ∧ tx i ≤ 57 then whL tx k (i + 1) (w * 10 + (tx i - 48)) else (i, w)
def nW (N : NT) (i : Nat) (w : Int64) : NT := (N.1, N.2.1, N.2.2.1, N.2.2.2.1, N.2.2.2.2.1, N.2.2.2.2.2.1, N.2.2.2.2.2.2.1, i, w, N.2.2.2.2.2.2.2.2.2)
def nH (N : NT) (i : Nat) (w : Int32) : NT := (N.1, N.2.1, N.2.2.1, N.2.2.2.1, N.2.2.2.2.1, N.2.2.2.2.2.1, N.2.2.2.2.2.2.1, i, N.2.2.2.2.2.2.2.2.1, w)
def nTok (N : NT) (x : Int32) : NT := (N.1, N.2.1, N.2.2.1, N.2.2.2.1, N.2.2.2.2.1, x, N.2.2.2.2.2.2)
def nSt (N : NT) (i : Nat) : NT := (N.1, N.2.1, N.2.2.1, N.2.2.2.1, N.2.2.2.2.1, N.2.2.2.2.2.1, i, N.2.2.2.2.2.2.2)
def nNx (N : NT) (i : Nat) : NT := (N.1, N.2.1, N.2.2.1, N.2.2.2.1, N.2.2.2.2.1, N.2.2.2.2.2.1, N.2.2.2.2.2.2.1, i, N.2.2.2.2.2.2.2.2)
def ovW (tx : Nat → Int32) (N : NT) (r : Nat × Int64) : NT := nTok (nW N r.1 r.2) (if 8 < nI r.1 - nI N.2.2.2.2.2.2.1 then 4 else 1)
def ovH (tx : Nat → Int32) (N : NT) (r : Nat × Int32) : NT := nTok (nH N r.1 r.2) (if 4 < nI r.1 - nI N.2.2.2.2.2.2.1 then 4 else 2)
def tX7_stepOverWord : List q_I := [(0, .aload_n 0, 1, 0, 0), (1, .lconst 0, 1, 0, 0), (2, .putfield 111, 3, 0, 0), (5, .aload_n 0, 1, 0, 0), (6, .getfield 70, 3, 0, 0), (9, .aload_n 0, 1, 0, 0), (10, .getfield 53, 3, 0, 0), (13, .if_icmp .ge 72, 3, 0, 85), (16, .aload_n 0, 1, 0, 0), (17, .getfield 39, 3, 0, 0), (20, .aload_n 0, 1, 0, 0), (21, .getfield 70, 3, 0, 0), (24, .baload, 1, 0, 0), (25, .bipush 97, 2, 97, 0), (27, .if_icmp .lt 58, 3, 0, 85), (30, .aload_n 0, 1, 0, 0), (31, .getfield 39, 3, 0, 0), (34, .aload_n 0, 1, 0, 0), (35, .getfield 70, 3, 0, 0), (38, .baload, 1, 0, 0), (39, .bipush 122, 2, 122, 0), (41, .if_icmp .gt 44, 3, 0, 85), (44, .aload_n 0, 1, 0, 0), (45, .aload_n 0, 1, 0, 0), (46, .getfield 111, 3, 0, 0), (49, .ldc2_w 232, 3, 0, 0), (52, .lmul, 1, 0, 0), (53, .aload_n 0, 1, 0, 0), (54, .getfield 39, 3, 0, 0), (57, .aload_n 0, 1, 0, 0), (58, .getfield 70, 3, 0, 0), (61, .baload, 1, 0, 0), (62, .bipush 97, 2, 97, 0), (64, .isub, 1, 0, 0), (65, .iconst 1, 1, 1, 0), (66, .iadd, 1, 0, 0), (67, .i2l, 1, 0, 0), (68, .ladd, 1, 0, 0), (69, .putfield 111, 3, 0, 0), (72, .aload_n 0, 1, 0, 0), (73, .dup, 1, 0, 0), (74, .getfield 70, 3, 0, 0), (77, .iconst 1, 1, 1, 0), (78, .iadd, 1, 0, 0), (79, .putfield 70, 3, 0, 0), (82, .goto (-77), 3, 0, 5), (85, .aload_n 0, 1, 0, 0), (86, .aload_n 0, 1, 0, 0), (87, .getfield 70, 3, 0, 0), (90, .aload_n 0, 1, 0, 0), (91, .getfield 135, 3, 0, 0), (94, .isub, 1, 0, 0), (95, .bipush 8, 2, 8, 0), (97, .if_icmp .gt 7, 3, 0, 104), (100, .iconst 1, 1, 1, 0), (101, .goto 4, 3, 0, 105), (104, .iconst 4, 1, 4, 0), (105, .putfield 80, 3, 0, 0), (108, .return_, 1, 0, 0)]
theorem tX7_stepOverWord_ok : (tX7_stepOverWord.all (q_okI cX7_stepOverWord)) = true := by decide +kernel

abbrev fdX7_stepOverWord : List (Nat ⊕ (Nat × Nat)) := [.inl 0, .inr (0, 2), .inr (0, 3)]
def spX7_stepOverWord : q_P := fun a w K => ∃ (tx : Nat → Int32) (N : NT), w = readW 0 (tk 0 5) tx N ∧ a = [.ref 0] ∧ nOk N ∧ K (.inl none) (readW 0 (tk 0 5) tx (ovW tx N (wdL tx (N.2.2.1 - N.2.2.2.2.2.2.2.1) N.2.2.2.2.2.2.2.1 0)))
abbrev csX7_stepOverWord : q_S := (1, 7, 0, 1, 0, 0, fdX7_stepOverWord, spX7_stepOverWord)
def EX7_stepOverWord : q_E := (tX7_stepOverWord, [(5, [0]), (85, [0])], 1, flX7, [], [(232, 32)], [], [], [], [], 0, 0, 0, none, [], [], 0, 0)
theorem okX7_stepOverWord (l : Launch) : q_Eok l RX7 cX7_stepOverWord EX7_stepOverWord := ⟨tX7_stepOverWord_ok, flX7_ok, q_nil, List.forall_mem_cons.mpr ⟨q_G_i 221 (by decide +kernel) rfl, q_nil⟩, q_nil, q_nil, q_nil, q_nil, (fun h => absurd h (by decide))⟩
set_option maxRecDepth 100000 in
set_option maxHeartbeats 4000000 in
theorem ctX7_stepOverWord (l : Launch) : q_CT l yX7_stepOverWord (.code yX7_stepOverWord cX7_stepOverWord 1 none) 0 0 0 spX7_stepOverWord := by
  refine q_ct_of EX7_stepOverWord (by decide +kernel) (okX7_stepOverWord l) rfl rfl rfl rfl rfl q_nil (fun ci h => by cases h) rfl ?_
  intro a w K h
  obtain ⟨tx, N, rfl, rfl, ⟨n1, n2, n3⟩, hK⟩ := h
  refine ⟨Nat.le_of_ble_eq_true rfl, fun C hC => hC _ _ _ _ _ _ ?_⟩
  have fin : ∀ r, K (.inl none) (readW 0 (tk 0 5) tx (ovW tx N r)) → C 85 [(0, .ref 0)] [] (readW 0 (tk 0 5) tx (nW N r.1 r.2)) 0 0 := by
    intro r hK
    rw [ovW] at hK
    refine hC _ _ _ _ _ _ (And.intro (fun c => ?_) (fun c => ?_))
    · have c : 8 < nI r.1 - nI N.2.2.2.2.2.2.1 := c
      rw [if_pos c] at hK; exact hK
    · have c : ¬ 8 < nI r.1 - nI N.2.2.2.2.2.2.1 := c
      rw [if_neg c] at hK; exact hK
  have loop : ∀ k i w, i + k = N.2.2.1 → K (.inl none) (readW 0 (tk 0 5) tx (ovW tx N (wdL tx k i w))) → C 5 [(0, .ref 0)] [] (readW 0 (tk 0 5) tx (nW N i w)) 0 0 := by
    intro k
    induction k with
    | zero =>
      intro i w hi hK
      refine hC _ _ _ _ _ _ ?_
      exact And.intro (fun c1 => fin _ hK) (fun c1 => absurd (nI_le (b := i) (a := N.2.2.1) (by omega) (by omega)) c1)
    | succ k ih =>
      intro i w hi hK
      have hv : vp_in (nI i) 700 := vp_in_nI (by omega) (by omega)
      have hc : (nI i).toNatClampNeg = i := nI_clamp (by omega)
      refine hC _ _ _ _ _ _ ?_
      refine And.intro (fun c1 => absurd c1 (nI_ge (a := i) (b := N.2.2.1) (by omega) (by omega))) (fun c1 => ⟨hv, And.intro (fun c2 => ?_) (fun c2 => ⟨hv, And.intro (fun c3 => ?_) (fun c3 => ⟨hv, ?_⟩)⟩)⟩)
      · have c2 : tx (nI i).toNatClampNeg < 97 := c2
        rw [hc] at c2
        rw [wdL, if_neg (fun z => Int32.not_le.mpr c2 z.1)] at hK
        exact fin _ hK
      · have c3 : 122 < tx (nI i).toNatClampNeg := c3
        rw [hc] at c3
        rw [wdL, if_neg (fun z => Int32.not_le.mpr c3 z.2)] at hK
        exact fin _ hK
      · have c2 : ¬ tx (nI i).toNatClampNeg < 97 := c2
        have c3 : ¬ 122 < tx (nI i).toNatClampNeg := c3
        rw [hc] at c2 c3
        rw [wdL, if_pos ⟨Int32.not_lt.mp c2, Int32.not_lt.mp c3⟩] at hK
        have h9 := ih (i + 1) _ (by omega) hK
        have e1 : tx i = tx (nI i).toNatClampNeg := by rw [hc]
        rw [e1] at h9
        unfold nW readW at h9
        rw [← nI_1 i] at h9
        exact h9
  exact loop _ _ _ (by omega) hK
def tX7_stepOverWhole : List q_I := [(0, .aload_n 0, 1, 0, 0), (1, .iconst 0, 1, 0, 0), (2, .putfield 219, 3, 0, 0), (5, .aload_n 0, 1, 0, 0), (6, .getfield 70, 3, 0, 0), (9, .aload_n 0, 1, 0, 0), (10, .getfield 53, 3, 0, 0), (13, .if_icmp .ge 68, 3, 0, 81), (16, .aload_n 0, 1, 0, 0), (17, .getfield 39, 3, 0, 0), (20, .aload_n 0, 1, 0, 0), (21, .getfield 70, 3, 0, 0), (24, .baload, 1, 0, 0), (25, .bipush 48, 2, 48, 0), (27, .if_icmp .lt 54, 3, 0, 81), (30, .aload_n 0, 1, 0, 0), (31, .getfield 39, 3, 0, 0), (34, .aload_n 0, 1, 0, 0), (35, .getfield 70, 3, 0, 0), (38, .baload, 1, 0, 0), (39, .bipush 57, 2, 57, 0), (41, .if_icmp .gt 40, 3, 0, 81), (44, .aload_n 0, 1, 0, 0), (45, .aload_n 0, 1, 0, 0), (46, .getfield 219, 3, 0, 0), (49, .bipush 10, 2, 10, 0), (51, .imul, 1, 0, 0), (52, .aload_n 0, 1, 0, 0), (53, .getfield 39, 3, 0, 0), (56, .aload_n 0, 1, 0, 0), (57, .getfield 70, 3, 0, 0), (60, .baload, 1, 0, 0), (61, .bipush 48, 2, 48, 0), (63, .isub, 1, 0, 0), (64, .iadd, 1, 0, 0), (65, .putfield 219, 3, 0, 0), (68, .aload_n 0, 1, 0, 0), (69, .dup, 1, 0, 0), (70, .getfield 70, 3, 0, 0), (73, .iconst 1, 1, 1, 0), (74, .iadd, 1, 0, 0), (75, .putfield 70, 3, 0, 0), (78, .goto (-73), 3, 0, 5), (81, .aload_n 0, 1, 0, 0), (82, .aload_n 0, 1, 0, 0), (83, .getfield 70, 3, 0, 0), (86, .aload_n 0, 1, 0, 0), (87, .getfield 135, 3, 0, 0), (90, .isub, 1, 0, 0), (91, .iconst 4, 1, 4, 0), (92, .if_icmp .gt 7, 3, 0, 99), (95, .iconst 2, 1, 2, 0), (96, .goto 4, 3, 0, 100), (99, .iconst 4, 1, 4, 0), (100, .putfield 80, 3, 0, 0), (103, .return_, 1, 0, 0)]
theorem tX7_stepOverWhole_ok : (tX7_stepOverWhole.all (q_okI cX7_stepOverWhole)) = true := by decide +kernel

abbrev fdX7_stepOverWhole : List (Nat ⊕ (Nat × Nat)) := [.inl 0, .inr (0, 2), .inr (0, 3)]
def spX7_stepOverWhole : q_P := fun a w K => ∃ (tx : Nat → Int32) (N : NT), w = readW 0 (tk 0 5) tx N ∧ a = [.ref 0] ∧ nOk N ∧ K (.inl none) (readW 0 (tk 0 5) tx (ovH tx N (whL tx (N.2.2.1 - N.2.2.2.2.2.2.2.1) N.2.2.2.2.2.2.2.1 0)))
abbrev csX7_stepOverWhole : q_S := (1, 7, 0, 1, 0, 0, fdX7_stepOverWhole, spX7_stepOverWhole)
def EX7_stepOverWhole : q_E := (tX7_stepOverWhole, [(5, [0]), (81, [0])], 1, flX7, [], [], [], [], [], [], 0, 0, 0, none, [], [], 0, 0)
theorem okX7_stepOverWhole (l : Launch) : q_Eok l RX7 cX7_stepOverWhole EX7_stepOverWhole := ⟨tX7_stepOverWhole_ok, flX7_ok, q_nil, q_nil, q_nil, q_nil, q_nil, q_nil, (fun h => absurd h (by decide))⟩
set_option maxRecDepth 100000 in
set_option maxHeartbeats 4000000 in
theorem ctX7_stepOverWhole (l : Launch) : q_CT l yX7_stepOverWhole (.code yX7_stepOverWhole cX7_stepOverWhole 1 none) 0 0 0 spX7_stepOverWhole := by
  refine q_ct_of EX7_stepOverWhole (by decide +kernel) (okX7_stepOverWhole l) rfl rfl rfl rfl rfl q_nil (fun ci h => by cases h) rfl ?_
  intro a w K h
  obtain ⟨tx, N, rfl, rfl, ⟨n1, n2, n3⟩, hK⟩ := h
  refine ⟨Nat.le_of_ble_eq_true rfl, fun C hC => hC _ _ _ _ _ _ ?_⟩
  have fin : ∀ r, K (.inl none) (readW 0 (tk 0 5) tx (ovH tx N r)) → C 81 [(0, .ref 0)] [] (readW 0 (tk 0 5) tx (nH N r.1 r.2)) 0 0 := by
    intro r hK
    rw [ovH] at hK
    refine hC _ _ _ _ _ _ (And.intro (fun c => ?_) (fun c => ?_))
    · have c : 4 < nI r.1 - nI N.2.2.2.2.2.2.1 := c
      rw [if_pos c] at hK; exact hK
    · have c : ¬ 4 < nI r.1 - nI N.2.2.2.2.2.2.1 := c
      rw [if_neg c] at hK; exact hK
  have loop : ∀ k i w, i + k = N.2.2.1 → K (.inl none) (readW 0 (tk 0 5) tx (ovH tx N (whL tx k i w))) → C 5 [(0, .ref 0)] [] (readW 0 (tk 0 5) tx (nH N i w)) 0 0 := by
    intro k
    induction k with
    | zero =>
      intro i w hi hK
      refine hC _ _ _ _ _ _ ?_
      exact And.intro (fun c1 => fin _ hK) (fun c1 => absurd (nI_le (b := i) (a := N.2.2.1) (by omega) (by omega)) c1)
    | succ k ih =>
      intro i w hi hK
      have hv : vp_in (nI i) 700 := vp_in_nI (by omega) (by omega)
      have hc : (nI i).toNatClampNeg = i := nI_clamp (by omega)
      refine hC _ _ _ _ _ _ ?_
      refine And.intro (fun c1 => absurd c1 (nI_ge (a := i) (b := N.2.2.1) (by omega) (by omega))) (fun c1 => ⟨hv, And.intro (fun c2 => ?_) (fun c2 => ⟨hv, And.intro (fun c3 => ?_) (fun c3 => ⟨hv, ?_⟩)⟩)⟩)
      · have c2 : tx (nI i).toNatClampNeg < 48 := c2
        rw [hc] at c2
        rw [whL, if_neg (fun z => Int32.not_le.mpr c2 z.1)] at hK
        exact fin _ hK
      · have c3 : 57 < tx (nI i).toNatClampNeg := c3
        rw [hc] at c3
        rw [whL, if_neg (fun z => Int32.not_le.mpr c3 z.2)] at hK
        exact fin _ hK
      · have c2 : ¬ tx (nI i).toNatClampNeg < 48 := c2
        have c3 : ¬ 57 < tx (nI i).toNatClampNeg := c3
        rw [hc] at c2 c3
        rw [whL, if_pos ⟨Int32.not_lt.mp c2, Int32.not_lt.mp c3⟩] at hK
        have h9 := ih (i + 1) _ (by omega) hK
        have e1 : tx i = tx (nI i).toNatClampNeg := by rw [hc]
        rw [e1] at h9
        unfold nH readW at h9
        rw [← nI_1 i] at h9
        exact h9
  exact loop _ _ _ (by omega) hK
theorem skB_b (tx : Nat → Int32) : ∀ k i, i ≤ skB tx k i ∧ skB tx k i ≤ i + k
  | 0, i => ⟨Nat.le_refl _, Nat.le_refl _⟩
  | k + 1, i => by
    rw [skB]
    split
    · have := skB_b tx k (i + 1); omega
    · omega
theorem wdL_b (tx : Nat → Int32) : ∀ k i w, i ≤ (wdL tx k i w).1 ∧ (wdL tx k i w).1 ≤ i + k
  | 0, i, w => ⟨Nat.le_refl _, Nat.le_refl _⟩
  | k + 1, i, w => by
    rw [wdL]
    split
    · have := wdL_b tx k (i + 1) (w * 32 + (tx i - 97 + 1).toInt64); omega
    · exact ⟨Nat.le_refl _, Nat.le_add_right _ _⟩
theorem whL_b (tx : Nat → Int32) : ∀ k i w, i ≤ (whL tx k i w).1 ∧ (whL tx k i w).1 ≤ i + k
  | 0, i, w => ⟨Nat.le_refl _, Nat.le_refl _⟩
  | k + 1, i, w => by
    rw [whL]
    split
    · have := whL_b tx k (i + 1) (w * 10 + (tx i - 48)); omega
    · exact ⟨Nat.le_refl _, Nat.le_add_right _ _⟩
/-- the token that begins at s -/
def tokF (tx : Nat → Int32) (N : NT) (s : Nat) : NT :=
  if s < N.2.2.1 then
    (if 97 ≤ tx s ∧ tx s ≤ 122 then ovW tx (nNx (nSt N s) s) (wdL tx (N.2.2.1 - s) s 0)
     else if 48 ≤ tx s ∧ tx s ≤ 57 then ovH tx (nNx (nSt N s) s) (whL tx (N.2.2.1 - s) s 0)
     else nTok (nNx (nSt N s) (s + 1)) (if tx s = 59 then 3 else 4))
  else nTok (nNx (nSt N s) s) 0
def stepF (tx : Nat → Int32) (N : NT) : NT := tokF tx N (skB tx (N.2.2.1 - N.2.2.2.2.2.2.2.1) N.2.2.2.2.2.2.2.1)
theorem stepF_ok0 {tx : Nat → Int32} {N : NT} (h : nOk (nUp N)) : nOk (stepF tx N) ∧ (stepF tx N).2.2.1 = N.2.2.1 := by
  obtain ⟨n1, n2, n3⟩ := h
  have n1 : N.2.2.1 ≤ 700 := n1
  have n3 : N.2.2.2.2.2.2.2.1 ≤ N.2.2.1 := n3
  have h1 := skB_b tx (N.2.2.1 - N.2.2.2.2.2.2.2.1) N.2.2.2.2.2.2.2.1
  unfold stepF
  generalize skB tx (N.2.2.1 - N.2.2.2.2.2.2.2.1) N.2.2.2.2.2.2.2.1 = s at h1
  unfold tokF
  split
  · next hs =>
    split
    · have h2 := wdL_b tx (N.2.2.1 - s) s 0
      refine ⟨⟨n1, h2.1, ?_⟩, rfl⟩
      show (wdL tx (N.2.2.1 - s) s 0).1 ≤ N.2.2.1
      omega
    · split
      · have h2 := whL_b tx (N.2.2.1 - s) s 0
        refine ⟨⟨n1, h2.1, ?_⟩, rfl⟩
        show (whL tx (N.2.2.1 - s) s 0).1 ≤ N.2.2.1
        omega
      · exact ⟨⟨n1, Nat.le_succ _, hs⟩, rfl⟩
  · refine ⟨⟨n1, Nat.le_refl _, ?_⟩, rfl⟩
    show s ≤ N.2.2.1
    omega
theorem stepF_ok {tx : Nat → Int32} {N : NT} (h : nOk N) : nOk (stepF tx N) ∧ (stepF tx N).2.2.1 = N.2.2.1 := stepF_ok0 h.s
def tX7_step : List q_I := [(0, .aload_n 0, 1, 0, 0), (1, .aload_n 0, 1, 0, 0), (2, .getfield 70, 3, 0, 0), (5, .putfield 135, 3, 0, 0), (8, .aload_n 0, 1, 0, 0), (9, .getfield 135, 3, 0, 0), (12, .aload_n 0, 1, 0, 0), (13, .getfield 53, 3, 0, 0), (16, .if_icmp .ge 30, 3, 0, 46), (19, .aload_n 0, 1, 0, 0), (20, .getfield 39, 3, 0, 0), (23, .aload_n 0, 1, 0, 0), (24, .getfield 135, 3, 0, 0), (27, .baload, 1, 0, 0), (28, .bipush 32, 2, 32, 0), (30, .if_icmp .ne 16, 3, 0, 46), (33, .aload_n 0, 1, 0, 0), (34, .dup, 1, 0, 0), (35, .getfield 135, 3, 0, 0), (38, .iconst 1, 1, 1, 0), (39, .iadd, 1, 0, 0), (40, .putfield 135, 3, 0, 0), (43, .goto (-35), 3, 0, 8), (46, .aload_n 0, 1, 0, 0), (47, .aload_n 0, 1, 0, 0), (48, .getfield 135, 3, 0, 0), (51, .putfield 70, 3, 0, 0), (54, .aload_n 0, 1, 0, 0), (55, .getfield 135, 3, 0, 0), (58, .aload_n 0, 1, 0, 0), (59, .getfield 53, 3, 0, 0), (62, .if_icmp .ge 15, 3, 0, 77), (65, .aload_n 0, 1, 0, 0), (66, .getfield 39, 3, 0, 0), (69, .aload_n 0, 1, 0, 0), (70, .getfield 135, 3, 0, 0), (73, .baload, 1, 0, 0), (74, .goto 5, 3, 0, 79), (77, .bipush 32, 2, 32, 0), (79, .istore_n 1, 1, 0, 0), (80, .iload_n 1, 1, 0, 0), (81, .bipush 97, 2, 97, 0), (83, .if_icmp .lt 16, 3, 0, 99), (86, .iload_n 1, 1, 0, 0), (87, .bipush 122, 2, 122, 0), (89, .if_icmp .gt 10, 3, 0, 99), (92, .aload_n 0, 1, 0, 0), (93, .invokevirtual 234, 3, 0, 0), (96, .goto 66, 3, 0, 162), (99, .iload_n 1, 1, 0, 0), (100, .bipush 48, 2, 48, 0), (102, .if_icmp .lt 16, 3, 0, 118), (105, .iload_n 1, 1, 0, 0), (106, .bipush 57, 2, 57, 0), (108, .if_icmp .gt 10, 3, 0, 118), (111, .aload_n 0, 1, 0, 0), (112, .invokevirtual 237, 3, 0, 0), (115, .goto 47, 3, 0, 162), (118, .aload_n 0, 1, 0, 0), (119, .getfield 135, 3, 0, 0), (122, .aload_n 0, 1, 0, 0), (123, .getfield 53, 3, 0, 0), (126, .if_icmp .ge 31, 3, 0, 157), (129, .aload_n 0, 1, 0, 0), (130, .iload_n 1, 1, 0, 0), (131, .bipush 59, 2, 59, 0), (133, .if_icmp .ne 7, 3, 0, 140), (136, .iconst 3, 1, 3, 0), (137, .goto 4, 3, 0, 141), (140, .iconst 4, 1, 4, 0), (141, .putfield 80, 3, 0, 0), (144, .aload_n 0, 1, 0, 0), (145, .aload_n 0, 1, 0, 0), (146, .getfield 135, 3, 0, 0), (149, .iconst 1, 1, 1, 0), (150, .iadd, 1, 0, 0), (151, .putfield 70, 3, 0, 0), (154, .goto 8, 3, 0, 162), (157, .aload_n 0, 1, 0, 0), (158, .iconst 0, 1, 0, 0), (159, .putfield 80, 3, 0, 0), (162, .return_, 1, 0, 0)]
theorem tX7_step_ok : (tX7_step.all (q_okI cX7_step)) = true := by decide +kernel

abbrev fdX7_step : List (Nat ⊕ (Nat × Nat)) := [.inl 0, .inr (0, 2), .inr (0, 3)]
def spX7_step : q_P := fun a w K => ∃ (tx : Nat → Int32) (N : NT), w = readW 0 (tk 0 5) tx N ∧ a = [.ref 0] ∧ nOk (nUp N) ∧ K (.inl none) (readW 0 (tk 0 5) tx (stepF tx N))
abbrev csX7_step : q_S := (1, 7, 1, 2, 0, 0, fdX7_step, spX7_step)
theorem coX7_234 (l : Launch) : q_CO l RX7 234 csX7_stepOverWord := ⟨yX7_stepOverWord, cX7_stepOverWord, none, 0, ⟨by decide +kernel, by decide +kernel, by decide +kernel⟩, q_G_i 6 (by decide +kernel) rfl, Or.inl ⟨by decide, rfl, rfl, q_G_i 576 (by decide +kernel) rfl, q_G_i 578 (by decide +kernel) rfl, q_G_s (n := 13) 3 (by decide +kernel), Or.inl ⟨q_G_i 579 (by decide +kernel) rfl, ctX7_stepOverWord l⟩⟩⟩
theorem coX7_237 (l : Launch) : q_CO l RX7 237 csX7_stepOverWhole := ⟨yX7_stepOverWhole, cX7_stepOverWhole, none, 0, ⟨by decide +kernel, by decide +kernel, by decide +kernel⟩, q_G_i 6 (by decide +kernel) rfl, Or.inl ⟨by decide, rfl, rfl, q_G_i 580 (by decide +kernel) rfl, q_G_i 582 (by decide +kernel) rfl, q_G_s (n := 13) 4 (by decide +kernel), Or.inl ⟨q_G_i 583 (by decide +kernel) rfl, ctX7_stepOverWhole l⟩⟩⟩
def EX7_step : q_E := (tX7_step, [(8, [0]), (46, [0]), (99, [0, 1]), (118, [0, 1])], 2, flX7, [(234, csX7_stepOverWord), (237, csX7_stepOverWhole)], [], [], [], [], [], 1, 0, 0, none, [], [], 0, 0)
theorem okX7_step (l : Launch) : q_Eok l RX7 cX7_step EX7_step := ⟨tX7_step_ok, flX7_ok, List.forall_mem_cons.mpr ⟨(coX7_234 l), List.forall_mem_cons.mpr ⟨(coX7_237 l), q_nil⟩⟩, q_nil, q_nil, q_nil, q_nil, q_nil, (fun h => absurd h (by decide))⟩
set_option maxRecDepth 100000 in
set_option maxHeartbeats 4000000 in
theorem ctX7_step (l : Launch) : q_CT l yX7_step (.code yX7_step cX7_step 2 none) 1 0 0 spX7_step := by
  refine q_ct_of EX7_step (by decide +kernel) (okX7_step l) rfl rfl rfl rfl rfl q_nil (fun ci h => by cases h) rfl ?_
  intro a w K h
  obtain ⟨tx, N, rfl, rfl, ⟨n1, n2, n3⟩, hK⟩ := h
  have n1 : N.2.2.1 ≤ 700 := n1
  have n3 : N.2.2.2.2.2.2.2.1 ≤ N.2.2.1 := n3
  refine ⟨Nat.le_of_ble_eq_true rfl, fun C hC => hC _ _ _ _ _ _ ?_⟩
  have fin : ∀ s, s ≤ N.2.2.1 → K (.inl none) (readW 0 (tk 0 5) tx (tokF tx N s)) → C 46 [(0, .ref 0)] [] (readW 0 (tk 0 5) tx (nSt N s)) 0 0 := by
    intro s hs hK
    refine hC _ _ _ _ _ _ (And.intro (fun c => ?_) (fun c => ?_))
    · have hs2 : ¬ s < N.2.2.1 := fun z => absurd c (nI_ge (a := s) (b := N.2.2.1) z (by omega))
      rw [tokF, if_neg hs2] at hK
      refine And.intro (fun _ => hC _ _ _ _ _ _ ?_) (fun c1 => absurd (by decide) c1)
      refine And.intro (fun _ => hC _ _ _ _ _ _ ?_) (fun c1 => absurd (by decide) c1)
      exact And.intro (fun _ => hK) (fun c3 => absurd c c3)
    · have hs2 : s < N.2.2.1 := lt_of_nI (a := s) (b := N.2.2.1) (by omega) (by omega) c
      have hv : vp_in (nI s) 700 := vp_in_nI (by omega) (by omega)
      have hc : (nI s).toNatClampNeg = s := nI_clamp (by omega)
      rw [tokF, if_pos hs2] at hK
      have sgn : ¬ (97 ≤ tx s ∧ tx s ≤ 122) → ¬ (48 ≤ tx s ∧ tx s ≤ 57) → C 118 [(0, .ref 0), (1, .int (tx s))] [] (readW 0 (tk 0 5) tx (nNx (nSt N s) s)) 0 0 := by
        intro a1 a2
        rw [if_neg a1, if_neg a2] at hK
        refine hC _ _ _ _ _ _ (And.intro (fun c1 => absurd c1 c) (fun _ => And.intro (fun c2 => ?_) (fun c2 => ?_)))
        · have c2 : ¬ tx s = 59 := c2
          rw [if_neg c2] at hK
          unfold nTok nNx nSt readW at hK
          rw [← nI_1 s] at hK
          exact hK
        · have c2 : tx s = 59 := c2
          rw [if_pos c2] at hK
          unfold nTok nNx nSt readW at hK
          rw [← nI_1 s] at hK
          exact hK
      have dig : ¬ (97 ≤ tx s ∧ tx s ≤ 122) → C 99 [(0, .ref 0), (1, .int (tx s))] [] (readW 0 (tk 0 5) tx (nNx (nSt N s) s)) 0 0 := by
        intro a1
        refine hC _ _ _ _ _ _ (And.intro (fun c1 => sgn a1 (fun z => Int32.not_le.mpr c1 z.1)) (fun c1 => And.intro (fun c2 => sgn a1 (fun z => Int32.not_le.mpr c2 z.2)) (fun c2 => ?_)))
        rw [if_neg a1, if_pos ⟨Int32.not_lt.mp c1, Int32.not_lt.mp c2⟩] at hK
        exact ⟨tx, nNx (nSt N s) s, rfl, rfl, ⟨n1, Nat.le_refl _, hs⟩, hK⟩
      refine ⟨hv, ?_⟩
      have e1 : tx (nI s).toNatClampNeg = tx s := by rw [hc]
      have dig2 := dig
      rw [← e1] at dig2
      refine And.intro (fun c1 => dig2 (fun z => Int32.not_le.mpr c1 z.1)) (fun c1 => And.intro (fun c2 => dig2 (fun z => Int32.not_le.mpr c2 z.2)) (fun c2 => ?_))
      have c1 : ¬ tx (nI s).toNatClampNeg < 97 := c1
      have c2 : ¬ 122 < tx (nI s).toNatClampNeg := c2
      rw [hc] at c1 c2
      rw [if_pos ⟨Int32.not_lt.mp c1, Int32.not_lt.mp c2⟩] at hK
      exact ⟨tx, nNx (nSt N s) s, rfl, rfl, ⟨n1, Nat.le_refl _, hs⟩, hK⟩
  have loop : ∀ k i, i + k = N.2.2.1 → K (.inl none) (readW 0 (tk 0 5) tx (tokF tx N (skB tx k i))) → C 8 [(0, .ref 0)] [] (readW 0 (tk 0 5) tx (nSt N i)) 0 0 := by
    intro k
    induction k with
    | zero =>
      intro i hi hK
      refine hC _ _ _ _ _ _ ?_
      exact And.intro (fun c1 => fin i (by omega) hK) (fun c1 => absurd (nI_le (b := i) (a := N.2.2.1) (by omega) (by omega)) c1)
    | succ k ih =>
      intro i hi hK
      have hv : vp_in (nI i) 700 := vp_in_nI (by omega) (by omega)
      have hc : (nI i).toNatClampNeg = i := nI_clamp (by omega)
      rw [skB] at hK
      refine hC _ _ _ _ _ _ ?_
      refine And.intro (fun c1 => absurd c1 (nI_ge (a := i) (b := N.2.2.1) (by omega) (by omega))) (fun c1 => ⟨hv, And.intro (fun c2 => ?_) (fun c2 => ?_)⟩)
      · have c2 : ¬ tx (nI i).toNatClampNeg = 32 := c2
        rw [hc] at c2
        rw [if_neg c2] at hK
        exact fin i (by omega) hK
      · have c2 : tx (nI i).toNatClampNeg = 32 := c2
        rw [hc] at c2
        rw [if_pos c2] at hK
        have h9 := ih (i + 1) (by omega) hK
        unfold nSt readW at h9
        rw [← nI_1 i] at h9
        exact h9
  exact loop _ _ (by omega) hK
def tX7_goBy : List q_I := [(0, .aload_n 0, 1, 0, 0), (1, .aload_n 1, 1, 0, 0), (2, .invokevirtual 87, 3, 0, 0), (5, .ifCond .ne 9, 3, 0, 14), (8, .aload_n 0, 1, 0, 0), (9, .iconst 1, 1, 1, 0), (10, .invokevirtual 83, 3, 0, 0), (13, .ireturn, 1, 0, 0), (14, .aload_n 0, 1, 0, 0), (15, .invokevirtual 73, 3, 0, 0), (18, .iconst 1, 1, 1, 0), (19, .ireturn, 1, 0, 0)]
theorem tX7_goBy_ok : (tX7_goBy.all (q_okI cX7_goBy)) = true := by decide +kernel

abbrev fdX7_goBy : List (Nat ⊕ (Nat × Nat)) := [.inl 0, .inr (0, 2), .inr (0, 3)]
def spX7_goBy : q_P := fun a w K => ∃ (tx : Nat → Int32) (N : NT) (t : Nat) (x : String × Nat × String × List Int32), w = readW 0 (tk 0 5) tx N ∧ a = [.ref 0, .retAddr t] ∧ q_str[t]? = some x ∧ nOk N ∧ (seeB tx N x.2.2.2 = true → K (.inl (some (.int 1))) (readW 0 (tk 0 5) tx (stepF tx N))) ∧ (seeB tx N x.2.2.2 = false → K (.inl (some (.int 0))) (readW 0 (tk 0 5) tx (failF N 1)))
abbrev csX7_goBy : q_S := (2, 7, 5, 2, 0, 0, fdX7_goBy, spX7_goBy)
theorem coX7_87 (l : Launch) : q_CO l RX7 87 csX7_sees := ⟨yX7_sees, cX7_sees, (some .boolean), 1, ⟨by decide +kernel, by decide +kernel, by decide +kernel⟩, q_G_i 6 (by decide +kernel) rfl, Or.inl ⟨by decide, rfl, rfl, q_G_i 588 (by decide +kernel) rfl, q_G_i 590 (by decide +kernel) rfl, q_G_s (n := 13) 6 (by decide +kernel), Or.inl ⟨q_G_i 591 (by decide +kernel) rfl, ctX7_sees l⟩⟩⟩
theorem coX7_83 (l : Launch) : q_CO l RX7 83 csX7_fail := ⟨yX7_fail, cX7_fail, (some .boolean), 1, ⟨by decide +kernel, by decide +kernel, by decide +kernel⟩, q_G_i 6 (by decide +kernel) rfl, Or.inl ⟨by decide, rfl, rfl, q_G_i 600 (by decide +kernel) rfl, q_G_i 602 (by decide +kernel) rfl, q_G_s (n := 13) 8 (by decide +kernel), Or.inl ⟨q_G_i 603 (by decide +kernel) rfl, ctX7_fail l⟩⟩⟩
theorem coX7_73 (l : Launch) : q_CO l RX7 73 csX7_step := ⟨yX7_step, cX7_step, none, 0, ⟨by decide +kernel, by decide +kernel, by decide +kernel⟩, q_G_i 6 (by decide +kernel) rfl, Or.inl ⟨by decide, rfl, rfl, q_G_i 572 (by decide +kernel) rfl, q_G_i 574 (by decide +kernel) rfl, q_G_s (n := 13) 2 (by decide +kernel), Or.inl ⟨q_G_i 575 (by decide +kernel) rfl, ctX7_step l⟩⟩⟩
def EX7_goBy : q_E := (tX7_goBy, [], 2, flX7, [(87, csX7_sees), (83, csX7_fail), (73, csX7_step)], [], [], [], [], [], 5, 0, 0, (some .boolean), [], [], 0, 0)
theorem okX7_goBy (l : Launch) : q_Eok l RX7 cX7_goBy EX7_goBy := ⟨tX7_goBy_ok, flX7_ok, List.forall_mem_cons.mpr ⟨(coX7_87 l), List.forall_mem_cons.mpr ⟨(coX7_83 l), List.forall_mem_cons.mpr ⟨(coX7_73 l), q_nil⟩⟩⟩, q_nil, q_nil, q_nil, q_nil, q_nil, (fun h => absurd h (by decide))⟩
set_option maxRecDepth 100000 in
set_option maxHeartbeats 4000000 in
theorem ctX7_goBy (l : Launch) : q_CT l yX7_goBy (.code yX7_goBy cX7_goBy 2 (some .boolean)) 5 0 0 spX7_goBy := by
  refine q_ct_of EX7_goBy (by decide +kernel) (okX7_goBy l) rfl rfl rfl rfl rfl q_nil (fun ci h => by cases h) rfl ?_
  intro a w K h
  obtain ⟨tx, N, t, x, rfl, rfl, hx, hN, hK1, hK0⟩ := h
  have ht := q_str_lt hx
  refine ⟨Nat.le_of_ble_eq_true rfl, fun C hC => hC _ _ _ _ _ _ ?_⟩
  refine ⟨by omega, tx, N, t, x, rfl, rfl, hx, hN, And.intro (fun c => ?_) (fun c => ?_)⟩
  · exact ⟨tx, N, rfl, rfl, hN.s, rfl, hK1 (bI_n0.mp c)⟩
  · exact ⟨tx, N, _, rfl, rfl, rfl, hK0 (bI_0.mp c)⟩
def numF (tx : Nat → Int32) (N : NT) (lo hi : Int32) : Int32 × NT :=
  if N.2.2.2.2.2.1 = 2 then (if N.2.2.2.2.2.2.2.2.2 < lo ∨ hi < N.2.2.2.2.2.2.2.2.2 then (-1, failF N 4) else (N.2.2.2.2.2.2.2.2.2, stepF tx N)) else (-1, failF N 1)
def tX7_number : List q_I := [(0, .aload_n 0, 1, 0, 0), (1, .getfield 80, 3, 0, 0), (4, .iconst 2, 1, 2, 0), (5, .if_icmp .eq 11, 3, 0, 16), (8, .aload_n 0, 1, 0, 0), (9, .iconst 1, 1, 1, 0), (10, .invokevirtual 83, 3, 0, 0), (13, .pop, 1, 0, 0), (14, .iconst (-1), 1, (-1), 0), (15, .ireturn, 1, 0, 0), (16, .aload_n 0, 1, 0, 0), (17, .getfield 219, 3, 0, 0), (20, .iload_n 1, 1, 0, 0), (21, .if_icmp .lt 11, 3, 0, 32), (24, .aload_n 0, 1, 0, 0), (25, .getfield 219, 3, 0, 0), (28, .iload_n 2, 1, 0, 0), (29, .if_icmp .le 11, 3, 0, 40), (32, .aload_n 0, 1, 0, 0), (33, .iconst 4, 1, 4, 0), (34, .invokevirtual 83, 3, 0, 0), (37, .pop, 1, 0, 0), (38, .iconst (-1), 1, (-1), 0), (39, .ireturn, 1, 0, 0), (40, .aload_n 0, 1, 0, 0), (41, .getfield 219, 3, 0, 0), (44, .istore_n 3, 1, 0, 0), (45, .aload_n 0, 1, 0, 0), (46, .invokevirtual 73, 3, 0, 0), (49, .iload_n 3, 1, 0, 0), (50, .ireturn, 1, 0, 0)]
theorem tX7_number_ok : (tX7_number.all (q_okI cX7_number)) = true := by decide +kernel

abbrev fdX7_number : List (Nat ⊕ (Nat × Nat)) := [.inl 0, .inr (0, 2), .inr (0, 3)]
def spX7_number : q_P := fun a w K => ∃ (tx : Nat → Int32) (N : NT) (lo hi : Int32), w = readW 0 (tk 0 5) tx N ∧ a = [.ref 0, .int lo, .int hi] ∧ nOk N ∧ K (.inl (some (.int (numF tx N lo hi).1))) (readW 0 (tk 0 5) tx (numF tx N lo hi).2)
abbrev csX7_number : q_S := (3, 7, 2, 4, 0, 0, fdX7_number, spX7_number)
def EX7_number : q_E := (tX7_number, [], 4, flX7, [(83, csX7_fail), (73, csX7_step)], [], [], [], [], [], 2, 0, 0, (some .int), [], [], 0, 0)
theorem okX7_number (l : Launch) : q_Eok l RX7 cX7_number EX7_number := ⟨tX7_number_ok, flX7_ok, List.forall_mem_cons.mpr ⟨(coX7_83 l), List.forall_mem_cons.mpr ⟨(coX7_73 l), q_nil⟩⟩, q_nil, q_nil, q_nil, q_nil, q_nil, (fun h => absurd h (by decide))⟩
set_option maxRecDepth 100000 in
set_option maxHeartbeats 4000000 in
theorem ctX7_number (l : Launch) : q_CT l yX7_number (.code yX7_number cX7_number 4 (some .int)) 2 0 0 spX7_number := by
  refine q_ct_of EX7_number (by decide +kernel) (okX7_number l) rfl rfl rfl rfl rfl q_nil (fun ci h => by cases h) rfl ?_
  intro a w K h
  obtain ⟨tx, N, lo, hi, rfl, rfl, hN, hK⟩ := h
  refine ⟨Nat.le_of_ble_eq_true rfl, fun C hC => hC _ _ _ _ _ _ ?_⟩
  refine And.intro (fun c => And.intro (fun c2 => ?_) (fun c2 => And.intro (fun c3 => ?_) (fun c3 => ?_))) (fun c => ?_)
  · rw [numF, if_pos c, if_pos (Or.inl c2)] at hK
    exact ⟨tx, N, _, rfl, rfl, hK⟩
  · rw [numF, if_pos c, if_neg (fun z => z.elim c2 (Int32.not_lt.mpr c3))] at hK
    exact ⟨tx, N, rfl, rfl, hN.s, hK⟩
  · rw [numF, if_pos c, if_pos (Or.inr (Int32.not_le.mp c3))] at hK
    exact ⟨tx, N, _, rfl, rfl, hK⟩
  · rw [numF, if_neg c] at hK
    exact ⟨tx, N, _, rfl, rfl, hK⟩
def useF (tx : Nat → Int32) (B : BT) (N : NT) (s : Int32) : Int32 × NT :=
  if isNm tx N then (match fstO (fun i => decide (B.2.1 i = N.2.2.2.2.2.2.2.2.1)) 0 B.2.2.2.2 with
    | none => (-1, failF N 2)
    | some i => if B.2.2.1 i = s then (B.2.2.2.1 i, stepF tx N) else (-1, failF N 2)) else (-1, failF N 1)
theorem fstO_lt {P : Nat → Bool} : ∀ (n s i : Nat), fstO P s n = some i → s ≤ i ∧ i < s + n
  | 0, s, i, h => by simp [fstO] at h
  | n + 1, s, i, h => by
    rw [fstO] at h
    split at h
    · cases h; omega
    · have := fstO_lt n (s + 1) i h; omega
def tX7_use : List q_I := [(0, .aload_n 0, 1, 0, 0), (1, .invokevirtual 108, 3, 0, 0), (4, .ifCond .ne 11, 3, 0, 15), (7, .aload_n 0, 1, 0, 0), (8, .iconst 1, 1, 1, 0), (9, .invokevirtual 83, 3, 0, 0), (12, .pop, 1, 0, 0), (13, .iconst (-1), 1, (-1), 0), (14, .ireturn, 1, 0, 0), (15, .aload_n 0, 1, 0, 0), (16, .getfield 43, 3, 0, 0), (19, .aload_n 0, 1, 0, 0), (20, .getfield 111, 3, 0, 0), (23, .invokevirtual 115, 3, 0, 0), (26, .istore_n 2, 1, 0, 0), (27, .iload_n 2, 1, 0, 0), (28, .iconst (-1), 1, (-1), 0), (29, .if_icmp .eq 16, 3, 0, 45), (32, .aload_n 0, 1, 0, 0), (33, .getfield 43, 3, 0, 0), (36, .getfield 213, 3, 0, 0), (39, .iload_n 2, 1, 0, 0), (40, .iaload, 1, 0, 0), (41, .iload_n 1, 1, 0, 0), (42, .if_icmp .eq 11, 3, 0, 53), (45, .aload_n 0, 1, 0, 0), (46, .iconst 2, 1, 2, 0), (47, .invokevirtual 83, 3, 0, 0), (50, .pop, 1, 0, 0), (51, .iconst (-1), 1, (-1), 0), (52, .ireturn, 1, 0, 0), (53, .aload_n 0, 1, 0, 0), (54, .invokevirtual 73, 3, 0, 0), (57, .aload_n 0, 1, 0, 0), (58, .getfield 43, 3, 0, 0), (61, .getfield 217, 3, 0, 0), (64, .iload_n 2, 1, 0, 0), (65, .iaload, 1, 0, 0), (66, .ireturn, 1, 0, 0)]
theorem tX7_use_ok : (tX7_use.all (q_okI cX7_use)) = true := by decide +kernel

abbrev fdX7_use : List (Nat ⊕ (Nat × Nat)) := [.inl 0, .inr (0, 2), .inr (0, 3), .inr (0, 5), .inr (3, 0), .inr (3, 1), .inr (3, 2), .inr (3, 3)]
def spX7_use : q_P := fun a w K => ∃ (tx : Nat → Int32) (N : NT) (B : BT) (s : Int32), w = readW 0 (.ref 3) tx N ++ bookO 3 (tk 3 5) (tk 3 6) (tk 3 7) B ∧ a = [.ref 0, .int s] ∧ nOk N ∧ B.2.2.2.2 ≤ 25 ∧ K (.inl (some (.int (useF tx B N s).1))) (readW 0 (.ref 3) tx (useF tx B N s).2 ++ bookO 3 (tk 3 5) (tk 3 6) (tk 3 7) B)
abbrev csX7_use : q_S := (2, 7, 2, 3, 0, 0, fdX7_use, spX7_use)
theorem coX7_108 (l : Launch) : q_CO l RX7 108 csX7_isName := ⟨yX7_isName, cX7_isName, (some .boolean), 0, ⟨by decide +kernel, by decide +kernel, by decide +kernel⟩, q_G_i 6 (by decide +kernel) rfl, Or.inl ⟨by decide, rfl, rfl, q_G_i 612 (by decide +kernel) rfl, q_G_i 614 (by decide +kernel) rfl, q_G_s (n := 13) 11 (by decide +kernel), Or.inl ⟨q_G_i 615 (by decide +kernel) rfl, ctX7_isName l⟩⟩⟩
theorem coX7_115 (l : Launch) : q_CO l RX7 115 csX0_find := ⟨yX0_find, cX0_find, (some .int), 1, ⟨by decide +kernel, by decide +kernel, by decide +kernel⟩, q_G_i 2 (by decide +kernel) rfl, Or.inl ⟨by decide, rfl, rfl, q_G_i 616 (by decide +kernel) rfl, q_G_i 617 (by decide +kernel) rfl, q_G_i 618 (by decide +kernel) rfl, Or.inl ⟨q_G_i 619 (by decide +kernel) rfl, ctX0_find l⟩⟩⟩
def EX7_use : q_E := (tX7_use, [], 3, flX7, [(108, csX7_isName), (83, csX7_fail), (115, csX0_find), (73, csX7_step)], [], [], [], [], [], 2, 0, 0, (some .int), [], [], 0, 0)
theorem okX7_use (l : Launch) : q_Eok l RX7 cX7_use EX7_use := ⟨tX7_use_ok, flX7_ok, List.forall_mem_cons.mpr ⟨(coX7_108 l), List.forall_mem_cons.mpr ⟨(coX7_83 l), List.forall_mem_cons.mpr ⟨(coX7_115 l), List.forall_mem_cons.mpr ⟨(coX7_73 l), q_nil⟩⟩⟩⟩, q_nil, q_nil, q_nil, q_nil, q_nil, (fun h => absurd h (by decide))⟩
set_option maxRecDepth 100000 in
set_option maxHeartbeats 4000000 in
theorem ctX7_use (l : Launch) : q_CT l yX7_use (.code yX7_use cX7_use 3 (some .int)) 2 0 0 spX7_use := by
  refine q_ct_of EX7_use (by decide +kernel) (okX7_use l) rfl rfl rfl rfl rfl q_nil (fun ci h => by cases h) rfl ?_
  intro a w K h
  obtain ⟨tx, N, B, s, rfl, rfl, hN, hB, hK⟩ := h
  refine ⟨Nat.le_of_ble_eq_true rfl, fun C hC => hC _ _ _ _ _ _ ?_⟩
  refine ⟨tx, N, rfl, rfl, hN, And.intro (fun c => ?_) (fun c => ?_)⟩
  · rw [useF, if_pos (bI_n0.mp c)] at hK
    refine ⟨B, _, _, _, _, rfl, rfl, hB, ?_⟩
    cases hf : fstO (fun i => decide (B.2.1 i = N.2.2.2.2.2.2.2.2.1)) 0 B.2.2.2.2 with
    | none =>
      rw [hf] at hK
      refine And.intro (fun _ => ?_) (fun c2 => absurd rfl c2)
      exact ⟨tx, N, _, rfl, rfl, hK⟩
    | some i =>
      rw [hf] at hK
      have hi := (fstO_lt _ _ _ hf).2
      have hv : vp_in (nI i) 25 := vp_in_nI (by omega) (by omega)
      have hc : (nI i).toNatClampNeg = i := nI_clamp (by omega)
      refine And.intro (fun c2 => absurd (show nI i = -1 from c2) (fun z => absurd (show nI i < 0 by rw [z]; decide) (nI_pos (by omega)))) (fun _ => ⟨hv, And.intro (fun c3 => ?_) (fun c3 => ?_)⟩)
      · have c3 : B.2.2.1 (nI i).toNatClampNeg = s := c3
        rw [hc] at c3
        have hK : K (.inl (some (.int (if B.2.2.1 i = s then (B.2.2.2.1 i, stepF tx N) else (-1, failF N 2)).1))) (readW 0 (.ref 3) tx (if B.2.2.1 i = s then (B.2.2.2.1 i, stepF tx N) else (-1, failF N 2)).2 ++ bookO 3 (tk 3 5) (tk 3 6) (tk 3 7) B) := hK
        rw [if_pos c3] at hK
        refine ⟨tx, N, rfl, rfl, hN.s, hv, ?_⟩
        show K (.inl (some (.int (B.2.2.2.1 (nI i).toNatClampNeg)))) _
        rw [hc]; exact hK
      · have c3 : ¬ B.2.2.1 (nI i).toNatClampNeg = s := c3
        rw [hc] at c3
        have hK : K (.inl (some (.int (if B.2.2.1 i = s then (B.2.2.2.1 i, stepF tx N) else (-1, failF N 2)).1))) (readW 0 (.ref 3) tx (if B.2.2.1 i = s then (B.2.2.2.1 i, stepF tx N) else (-1, failF N 2)).2 ++ bookO 3 (tk 3 5) (tk 3 6) (tk 3 7) B) := hK
        rw [if_neg c3] at hK
        exact ⟨tx, N, _, rfl, rfl, hK⟩
  · rw [useF, if_neg (by rw [bI_0.mp c]; decide)] at hK
    exact ⟨tx, N, _, rfl, rfl, hK⟩
