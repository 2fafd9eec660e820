/-- the whole strip: tape, the book now, the spare one, reader, people, ways, loads, court, treaty, ledger -/
def stripW (o : Nat) (tl : Nat) (hb : Bool) (td tr lf : Int32) (tx : Nat → Int32) (rb : Value) (N : NT) (B : BT) (R : RT) (L : LT) (G : GT) (B2 : BT) (R2 : RT) (L2 : LT) (G2 : GT) (P : PT) (W : WT) (S : ST) (C : CT) (Y : YT) (D : DT) : List q_C :=
  [.inr (11, [.ref (o + 1), .int (nI tl), .ref (o + 2), .ref (o + 32), .ref (o + 62), .int (bI hb), .int td, .ref (o + 64), .ref (o + 71), .ref (o + 78), .ref (o + 84), .ref (o + 92), .ref (o + 99), .int tr, .int lf]), .inl (0, 700, .inl tx)] ++ (bookW (o + 2) B R L G ++ (bookW (o + 32) B2 R2 L2 G2 ++ ([.inr (7, [.int N.1, .int N.2.1, .ref (o + 63), .ref (o + 1), .int (nI N.2.2.1), rb, .int N.2.2.2.1, .int N.2.2.2.2.1, .int N.2.2.2.2.2.1, .int (nI N.2.2.2.2.2.2.1), .int (nI N.2.2.2.2.2.2.2.1), .long N.2.2.2.2.2.2.2.2.1, .int N.2.2.2.2.2.2.2.2.2]), .inl (2, 10, .inr rsv)] ++ (peopleW (o + 64) P ++ (waysW (o + 71) (.ref (o + 64)) W ++ (loadsW (o + 78) S ++ (courtW (o + 84) C ++ (treatyW (o + 92) Y ++ ledgerW (o + 99) D))))))))

def tX11_where : List q_I := [(0, .aload_n 0, 1, 0, 0), (1, .getfield 128, 3, 0, 0), (4, .iconst 4, 1, 4, 0), (5, .if_icmp .ne 13, 3, 0, 18), (8, .aload_n 0, 1, 0, 0), (9, .getfield 28, 3, 0, 0), (12, .getfield 131, 3, 0, 0), (15, .goto 4, 3, 0, 19), (18, .iconst (-1), 1, (-1), 0), (19, .ireturn, 1, 0, 0)]
theorem tX11_where_ok : (tX11_where.all (q_okI cX11_where)) = true := by decide +kernel

abbrev fdX11_where : List (Nat ⊕ (Nat × Nat)) := [.inl 0, .inr (0, 0), .inr (0, 2), .inr (2, 0), .inr (2, 1), .inr (2, 2), .inr (2, 3), .inr (2, 5), .inr (7, 0), .inr (7, 1), .inr (7, 2), .inr (7, 3), .inr (7, 4), .inr (7, 5), .inr (7, 6), .inr (2, 6), .inr (15, 0), .inr (15, 1), .inr (15, 2), .inr (15, 3), .inr (15, 4), .inr (15, 5), .inr (15, 6), .inr (2, 7), .inr (23, 0), .inr (23, 1), .inr (23, 2), .inr (23, 3), .inr (23, 4), .inr (23, 5), .inr (23, 6), .inr (23, 7), .inr (0, 3), .inr (32, 0), .inr (32, 1), .inr (32, 2), .inr (32, 3), .inr (32, 5), .inr (37, 0), .inr (37, 1), .inr (37, 2), .inr (37, 3), .inr (37, 4), .inr (37, 5), .inr (37, 6), .inr (32, 6), .inr (45, 0), .inr (45, 1), .inr (45, 2), .inr (45, 3), .inr (45, 4), .inr (45, 5), .inr (45, 6), .inr (32, 7), .inr (53, 0), .inr (53, 1), .inr (53, 2), .inr (53, 3), .inr (53, 4), .inr (53, 5), .inr (53, 6), .inr (53, 7), .inr (0, 4), .inr (62, 2), .inr (0, 7), .inr (64, 0), .inr (64, 1), .inr (64, 2), .inr (64, 3), .inr (64, 4), .inr (64, 5), .inr (0, 8), .inr (71, 1), .inr (71, 2), .inr (71, 3), .inr (71, 4), .inr (71, 5), .inr (71, 6), .inr (0, 9), .inr (78, 0), .inr (78, 1), .inr (78, 2), .inr (78, 3), .inr (78, 4), .inr (0, 10), .inr (84, 0), .inr (84, 1), .inr (84, 2), .inr (84, 3), .inr (84, 4), .inr (84, 5), .inr (84, 6), .inr (0, 11), .inr (92, 0), .inr (92, 1), .inr (92, 2), .inr (92, 3), .inr (92, 4), .inr (92, 5), .inr (0, 12), .inr (99, 0), .inr (99, 1), .inr (99, 2)]
def spX11_where : q_P := fun a w K => ∃ (tl : Nat) (hb : Bool) (td : Int32) (tr : Int32) (lf : Int32) (tx : Nat → Int32) (rb : Value) (N : NT) (B : BT) (R : RT) (L : LT) (G : GT) (B2 : BT) (R2 : RT) (L2 : LT) (G2 : GT) (P : PT) (W : WT) (S : ST) (Cc : CT) (Y : YT) (D : DT), w = (stripW 0 tl hb td tr lf tx rb N B R L G B2 R2 L2 G2 P W S Cc Y D) ∧ a = [.ref 0] ∧ K (.inl (some (.int (if tr = 4 then N.2.1 else -1)))) (stripW 0 tl hb td tr lf tx rb N B R L G B2 R2 L2 G2 P W S Cc Y D)
abbrev csX11_where : q_S := (1, 11, 0, 1, 0, 0, fdX11_where, spX11_where)
def EX11_where : q_E := (tX11_where, [], 1, flX11, [], [], [], [], [], [], 0, 0, 0, (some .int), [], [], 0, 0)
theorem okX11_where (l : Launch) : q_Eok l RX11 cX11_where EX11_where := ⟨tX11_where_ok, flX11_ok, q_nil, q_nil, q_nil, q_nil, q_nil, q_nil, (fun h => absurd h (by decide))⟩
set_option maxRecDepth 100000 in
set_option maxHeartbeats 4000000 in
theorem ctX11_where (l : Launch) : q_CT l yX11_where (.code yX11_where cX11_where 1 (some .int)) 0 0 0 spX11_where := by
  refine q_ct_of EX11_where (by decide +kernel) (okX11_where l) rfl rfl rfl rfl rfl q_nil (fun ci h => by cases h) rfl ?_
  intro a w K h
  obtain ⟨tl, hb, td, tr, lf, tx, rb, N, B, R, L, G, B2, R2, L2, G2, P, W, S, Cc, Y, D, rfl, rfl, hK⟩ := h
  refine ⟨Nat.le_of_ble_eq_true rfl, fun C hC => hC _ _ _ _ _ _ ?_⟩
  refine And.intro (fun c => ?_) (fun c => ?_)
  · rw [if_neg c] at hK; exact hK
  · rw [if_pos c] at hK; exact hK
def trvR (T : Nat → Int32) (P : PT) (p x d : Int32) : Int32 := if 0 ≤ p ∧ p < nI P.2.2.2.2.2.2 then (if toldB T 0 x then (if dayB d then 0 else 2) else 1) else 1
def tX11_travelRefusal : List q_I := [(0, .aload_n 0, 1, 0, 0), (1, .getfield 35, 3, 0, 0), (4, .iload_n 1, 1, 0, 0), (5, .invokevirtual 162, 3, 0, 0), (8, .ifCond .eq 15, 3, 0, 23), (11, .aload_n 0, 1, 0, 0), (12, .getfield 16, 3, 0, 0), (15, .iconst 0, 1, 0, 0), (16, .iload_n 2, 1, 0, 0), (17, .invokevirtual 145, 3, 0, 0), (20, .ifCond .ne 5, 3, 0, 25), (23, .iconst 1, 1, 1, 0), (24, .ireturn, 1, 0, 0), (25, .iload_n 3, 1, 0, 0), (26, .invokestatic 152, 3, 0, 0), (29, .ifCond .eq 7, 3, 0, 36), (32, .iconst 0, 1, 0, 0), (33, .goto 4, 3, 0, 37), (36, .iconst 2, 1, 2, 0), (37, .ireturn, 1, 0, 0)]
theorem tX11_travelRefusal_ok : (tX11_travelRefusal.all (q_okI cX11_travelRefusal)) = true := by decide +kernel

abbrev fdX11_travelRefusal : List (Nat ⊕ (Nat × Nat)) := [.inl 0, .inr (0, 2), .inr (1, 0), .inr (0, 7), .inr (3, 0), .inr (3, 1), .inr (3, 2), .inr (3, 3), .inr (3, 4), .inr (3, 5)]
def spX11_travelRefusal : q_P := fun a w K => ∃ (tl hb td tr lf m p x d : Int32) (T : Nat → Int32) (P : PT), w = stripP tl hb td tr lf m T P ∧ a = [.ref 0, .int p, .int x, .int d] ∧ K (.inl (some (.int (trvR T P p x d)))) (stripP tl hb td tr lf m T P)
abbrev csX11_travelRefusal : q_S := (4, 11, 1, 4, 0, 0, fdX11_travelRefusal, spX11_travelRefusal)
theorem coX11_162 (l : Launch) : q_CO l RX11 162 csX6_has := ⟨yX6_has, cX6_has, (some .boolean), 1, ⟨by decide +kernel, by decide +kernel, by decide +kernel⟩, q_G_i 11 (by decide +kernel) rfl, Or.inl ⟨by decide, rfl, rfl, q_G_i 788 (by decide +kernel) rfl, q_G_i 789 (by decide +kernel) rfl, q_G_i 790 (by decide +kernel) rfl, Or.inl ⟨q_G_i 791 (by decide +kernel) rfl, ctX6_has l⟩⟩⟩
def EX11_travelRefusal : q_E := (tX11_travelRefusal, [], 4, flX11, [(162, csX6_has), (145, csX0_has), (152, csX11_isDay)], [], [], [], [], [], 1, 0, 0, (some .int), [], [], 0, 0)
theorem okX11_travelRefusal (l : Launch) : q_Eok l RX11 cX11_travelRefusal EX11_travelRefusal := ⟨tX11_travelRefusal_ok, flX11_ok, List.forall_mem_cons.mpr ⟨(coX11_162 l), List.forall_mem_cons.mpr ⟨(coX11_145 l), List.forall_mem_cons.mpr ⟨(coX11_152 l), q_nil⟩⟩⟩, q_nil, q_nil, q_nil, q_nil, q_nil, (fun h => absurd h (by decide))⟩
set_option maxRecDepth 100000 in
set_option maxHeartbeats 4000000 in
theorem ctX11_travelRefusal (l : Launch) : q_CT l yX11_travelRefusal (.code yX11_travelRefusal cX11_travelRefusal 4 (some .int)) 1 0 0 spX11_travelRefusal := by
  refine q_ct_of EX11_travelRefusal (by decide +kernel) (okX11_travelRefusal l) rfl rfl rfl rfl rfl q_nil (fun ci h => by cases h) rfl ?_
  intro a w K h
  obtain ⟨tl, hb, td, tr, lf, m, p, x, d, T, P, rfl, rfl, hK⟩ := h
  refine ⟨Nat.le_of_ble_eq_true rfl, fun C hC => hC _ _ _ _ _ _ ?_⟩
  rw [trvR] at hK
  refine ⟨P, p, rfl, rfl, And.intro (fun c => ?_) (fun c => ?_)⟩
  · rw [if_neg (of_decide_eq_false (bI_0.mp c))] at hK; exact hK
  · rw [if_pos (of_decide_eq_true (bI_n0.mp c))] at hK
    refine ⟨T, 0, x, _, _, _, _, _, _, _, rfl, rfl, by decide, And.intro (fun c2 => ?_) (fun c2 => ?_)⟩
    · have c2 : toldB T 0 x = true := bI_n0.mp c2
      rw [if_pos c2] at hK
      refine ⟨d, rfl, rfl, And.intro (fun c3 => ?_) (fun c3 => ?_)⟩
      · have c3 : dayB d = false := bI_0.mp c3
        rw [c3] at hK; exact hK
      · have c3 : dayB d = true := bI_n0.mp c3
        rw [c3] at hK; exact hK
    · have c2 : toldB T 0 x = false := bI_0.mp c2
      rw [c2] at hK; exact hK
def tX11_grantWay : List q_I := [(0, .iload_n 1, 1, 0, 0), (1, .ldc 232, 2, 0, 0), (3, .if_icmp .ne 12, 3, 0, 15), (6, .aload_n 0, 1, 0, 0), (7, .bipush 6, 2, 6, 0), (9, .invokevirtual 84, 3, 0, 0), (12, .goto 8, 3, 0, 20), (15, .aload_n 0, 1, 0, 0), (16, .iload_n 1, 1, 0, 0), (17, .invokevirtual 113, 3, 0, 0), (20, .ireturn, 1, 0, 0)]
theorem tX11_grantWay_ok : (tX11_grantWay.all (q_okI cX11_grantWay)) = true := by decide +kernel

abbrev fdX11_grantWay : List (Nat ⊕ (Nat × Nat)) := [.inl 0]
def spX11_grantWay : q_P := fun a w K => ∃ (tl hb td tr lf x : Int32), w = stripO tl hb td tr lf ∧ a = [.ref 0, .int x] ∧ (if x = 1000000 then K (.inl (some (.int (-1)))) (stripO tl hb td 6 lf) else K (.inl (some (.int x))) (stripO tl hb td 0 lf))
abbrev csX11_grantWay : q_S := (2, 11, 1, 2, 0, 0, fdX11_grantWay, spX11_grantWay)
theorem coX11_84 (l : Launch) : q_CO l RX11 84 csX11_refuse := ⟨yX11_refuse, cX11_refuse, (some .int), 1, ⟨by decide +kernel, by decide +kernel, by decide +kernel⟩, q_G_i 1 (by decide +kernel) rfl, Or.inl ⟨by decide, rfl, rfl, q_G_i 557 (by decide +kernel) rfl, q_G_i 559 (by decide +kernel) rfl, q_G_s (n := 15) 1 (by decide +kernel), Or.inl ⟨q_G_i 560 (by decide +kernel) rfl, ctX11_refuse l⟩⟩⟩
theorem coX11_113 (l : Launch) : q_CO l RX11 113 csX11_grant := ⟨yX11_grant, cX11_grant, (some .int), 1, ⟨by decide +kernel, by decide +kernel, by decide +kernel⟩, q_G_i 1 (by decide +kernel) rfl, Or.inl ⟨by decide, rfl, rfl, q_G_i 721 (by decide +kernel) rfl, q_G_i 723 (by decide +kernel) rfl, q_G_s (n := 15) 20 (by decide +kernel), Or.inl ⟨q_G_i 724 (by decide +kernel) rfl, ctX11_grant l⟩⟩⟩
def EX11_grantWay : q_E := (tX11_grantWay, [], 2, flX11, [(84, csX11_refuse), (113, csX11_grant)], [], [(232, 1000000)], [], [], [], 1, 0, 0, (some .int), [], [], 0, 0)
theorem okX11_grantWay (l : Launch) : q_Eok l RX11 cX11_grantWay EX11_grantWay := ⟨tX11_grantWay_ok, flX11_ok, List.forall_mem_cons.mpr ⟨(coX11_84 l), List.forall_mem_cons.mpr ⟨(coX11_113 l), q_nil⟩⟩, q_nil, List.forall_mem_cons.mpr ⟨q_G_i 916 (by decide +kernel) rfl, q_nil⟩, q_nil, q_nil, q_nil, (fun h => absurd h (by decide))⟩
set_option maxRecDepth 100000 in
set_option maxHeartbeats 4000000 in
theorem ctX11_grantWay (l : Launch) : q_CT l yX11_grantWay (.code yX11_grantWay cX11_grantWay 2 (some .int)) 1 0 0 spX11_grantWay := by
  refine q_ct_of EX11_grantWay (by decide +kernel) (okX11_grantWay l) rfl rfl rfl rfl rfl q_nil (fun ci h => by cases h) rfl ?_
  intro a w K h
  obtain ⟨tl, hb, td, tr, lf, x, rfl, rfl, hK⟩ := h
  refine ⟨Nat.le_of_ble_eq_true rfl, fun C hC => hC _ _ _ _ _ _ ?_⟩
  refine And.intro (fun c => ?_) (fun c => ?_)
  · rw [if_neg c] at hK; exact ⟨tl, hb, td, tr, lf, _, rfl, rfl, hK⟩
  · rw [if_pos c] at hK; exact ⟨tl, hb, td, tr, lf, _, rfl, rfl, hK⟩
/-- persons stand at told places -/
def pPl (P : PT) (n : Nat) : Prop := ∀ p, p < P.2.2.2.2.2.2 → ∃ x, P.1 p = nI x ∧ x < n
theorem inI {x : Int32} {n : Nat} (hn : n < 2 ^ 31) (h : 0 ≤ x ∧ x < nI n) : ∃ p, x = nI p ∧ p < n := by
  obtain ⟨h1, h2⟩ := h
  rw [Int32.le_iff_toInt_le] at h1
  rw [Int32.lt_iff_toInt_lt, nI_toInt hn] at h2
  have h0 : (0 : Int32).toInt = 0 := by decide
  rw [h0] at h1
  refine ⟨x.toInt.toNat, ?_, by omega⟩
  apply Int32.toInt_inj.mp
  rw [nI_toInt (by omega)]
  omega
theorem toldI {T : Nat → Int32} {s n : Nat} {x : Int32} (hT : T s = nI n) (hn : n ≤ 8) (h : toldB T s x = true) : ∃ p, x = nI p ∧ p < n := by
  have h := of_decide_eq_true h
  rw [hT] at h
  exact inI (by omega) h
theorem trvR_0 {T : Nat → Int32} {P : PT} {p x d : Int32} (h : trvR T P p x d = 0) : (0 ≤ p ∧ p < nI P.2.2.2.2.2.2) ∧ toldB T 0 x = true ∧ dayB d = true := by
  unfold trvR at h
  by_cases h1 : 0 ≤ p ∧ p < nI P.2.2.2.2.2.2
  · rw [if_pos h1] at h
    by_cases h2 : toldB T 0 x = true
    · rw [if_pos h2] at h
      by_cases h3 : dayB d = true
      · exact ⟨h1, h2, h3⟩
      · rw [if_neg h3] at h; exact absurd h (by decide)
    · rw [if_neg h2] at h; exact absurd h (by decide)
  · rw [if_neg h1] at h; exact absurd h (by decide)
def tX11_first : List q_I := [(0, .aload_n 0, 1, 0, 0), (1, .iload_n 1, 1, 0, 0), (2, .iload_n 2, 1, 0, 0), (3, .iload_n 3, 1, 0, 0), (4, .invokevirtual 215, 3, 0, 0), (7, .istore 4, 2, 0, 0), (9, .iload 4, 2, 0, 0), (11, .ifCond .eq 10, 3, 0, 21), (14, .aload_n 0, 1, 0, 0), (15, .iload 4, 2, 0, 0), (17, .invokevirtual 84, 3, 0, 0), (20, .ireturn, 1, 0, 0), (21, .aload_n 0, 1, 0, 0), (22, .getfield 44, 3, 0, 0), (25, .aload_n 0, 1, 0, 0), (26, .getfield 16, 3, 0, 0), (29, .iload_n 1, 1, 0, 0), (30, .iload_n 3, 1, 0, 0), (31, .invokevirtual 219, 3, 0, 0), (34, .aload_n 0, 1, 0, 0), (35, .aload_n 0, 1, 0, 0), (36, .getfield 44, 3, 0, 0), (39, .getfield 223, 3, 0, 0), (42, .iload_n 2, 1, 0, 0), (43, .iaload, 1, 0, 0), (44, .invokevirtual 226, 3, 0, 0), (47, .ireturn, 1, 0, 0)]
theorem tX11_first_ok : (tX11_first.all (q_okI cX11_first)) = true := by decide +kernel

abbrev fdX11_first : List (Nat ⊕ (Nat × Nat)) := [.inl 0, .inr (0, 0), .inr (0, 2), .inr (2, 0), .inr (2, 1), .inr (2, 2), .inr (2, 3), .inr (2, 5), .inr (7, 0), .inr (7, 1), .inr (7, 2), .inr (7, 3), .inr (7, 4), .inr (7, 5), .inr (7, 6), .inr (2, 6), .inr (15, 0), .inr (15, 1), .inr (15, 2), .inr (15, 3), .inr (15, 4), .inr (15, 5), .inr (15, 6), .inr (2, 7), .inr (23, 0), .inr (23, 1), .inr (23, 2), .inr (23, 3), .inr (23, 4), .inr (23, 5), .inr (23, 6), .inr (23, 7), .inr (0, 3), .inr (32, 0), .inr (32, 1), .inr (32, 2), .inr (32, 3), .inr (32, 5), .inr (37, 0), .inr (37, 1), .inr (37, 2), .inr (37, 3), .inr (37, 4), .inr (37, 5), .inr (37, 6), .inr (32, 6), .inr (45, 0), .inr (45, 1), .inr (45, 2), .inr (45, 3), .inr (45, 4), .inr (45, 5), .inr (45, 6), .inr (32, 7), .inr (53, 0), .inr (53, 1), .inr (53, 2), .inr (53, 3), .inr (53, 4), .inr (53, 5), .inr (53, 6), .inr (53, 7), .inr (0, 4), .inr (62, 2), .inr (0, 7), .inr (64, 0), .inr (64, 1), .inr (64, 2), .inr (64, 3), .inr (64, 4), .inr (64, 5), .inr (0, 8), .inr (71, 1), .inr (71, 2), .inr (71, 3), .inr (71, 4), .inr (71, 5), .inr (71, 6), .inr (0, 9), .inr (78, 0), .inr (78, 1), .inr (78, 2), .inr (78, 3), .inr (78, 4), .inr (0, 10), .inr (84, 0), .inr (84, 1), .inr (84, 2), .inr (84, 3), .inr (84, 4), .inr (84, 5), .inr (84, 6), .inr (0, 11), .inr (92, 0), .inr (92, 1), .inr (92, 2), .inr (92, 3), .inr (92, 4), .inr (92, 5), .inr (0, 12), .inr (99, 0), .inr (99, 1), .inr (99, 2)]
def spX11_first : q_P := fun a w K => ∃ (tl : Nat) (hb : Bool) (td : Int32) (tr : Int32) (lf : Int32) (tx : Nat → Int32) (rb : Value) (N : NT) (B : BT) (R : RT) (L : LT) (G : GT) (B2 : BT) (R2 : RT) (L2 : LT) (G2 : GT) (P : PT) (W : WT) (S : ST) (Cc : CT) (Y : YT) (D : DT) (n : Nat) (p x d : Int32), w = (stripW 0 tl hb td tr lf tx rb N B R L G B2 R2 L2 G2 P W S Cc Y D) ∧ a = [.ref 0, .int p, .int x, .int d] ∧ pOk P ∧ pPl P n ∧ rOk R ∧ rEnd R n ∧ L_n L ≤ 24 ∧ B.1 0 = nI n ∧ n ≤ 8 ∧ (if trvR B.1 P p x d = 0 then (if (findD P L R p.toNatClampNeg n (P.1 p.toNatClampNeg).toNatClampNeg d W).1 x.toNatClampNeg = 1000000 then K (.inl (some (.int (-1)))) (stripW 0 tl hb td (6) lf tx rb N B R L G B2 R2 L2 G2 P (findD P L R p.toNatClampNeg n (P.1 p.toNatClampNeg).toNatClampNeg d W) S Cc Y D) else K (.inl (some (.int ((findD P L R p.toNatClampNeg n (P.1 p.toNatClampNeg).toNatClampNeg d W).1 x.toNatClampNeg)))) (stripW 0 tl hb td (0) lf tx rb N B R L G B2 R2 L2 G2 P (findD P L R p.toNatClampNeg n (P.1 p.toNatClampNeg).toNatClampNeg d W) S Cc Y D)) else K (.inl (some (.int (-1)))) (stripW 0 tl hb td (trvR B.1 P p x d) lf tx rb N B R L G B2 R2 L2 G2 P W S Cc Y D))
abbrev csX11_first : q_S := (4, 11, 6, 5, 0, 0, fdX11_first, spX11_first)
theorem coX11_215 (l : Launch) : q_CO l RX11 215 csX11_travelRefusal := ⟨yX11_travelRefusal, cX11_travelRefusal, (some .int), 3, ⟨by decide +kernel, by decide +kernel, by decide +kernel⟩, q_G_i 1 (by decide +kernel) rfl, Or.inl ⟨by decide, rfl, rfl, q_G_i 863 (by decide +kernel) rfl, q_G_i 865 (by decide +kernel) rfl, q_G_s (n := 15) 25 (by decide +kernel), Or.inl ⟨q_G_i 866 (by decide +kernel) rfl, ctX11_travelRefusal l⟩⟩⟩
theorem coX11_219 (l : Launch) : q_CO l RX11 219 csX10_findDays := ⟨yX10_findDays, cX10_findDays, none, 3, ⟨by decide +kernel, by decide +kernel, by decide +kernel⟩, q_G_i 12 (by decide +kernel) rfl, Or.inl ⟨by decide, rfl, rfl, q_G_i 867 (by decide +kernel) rfl, q_G_i 868 (by decide +kernel) rfl, q_G_i 869 (by decide +kernel) rfl, Or.inl ⟨q_G_i 870 (by decide +kernel) rfl, ctX10_findDays l⟩⟩⟩
theorem coX11_226 (l : Launch) : q_CO l RX11 226 csX11_grantWay := ⟨yX11_grantWay, cX11_grantWay, (some .int), 1, ⟨by decide +kernel, by decide +kernel, by decide +kernel⟩, q_G_i 1 (by decide +kernel) rfl, Or.inl ⟨by decide, rfl, rfl, q_G_i 912 (by decide +kernel) rfl, q_G_i 914 (by decide +kernel) rfl, q_G_s (n := 15) 31 (by decide +kernel), Or.inl ⟨q_G_i 915 (by decide +kernel) rfl, ctX11_grantWay l⟩⟩⟩
def EX11_first : q_E := (tX11_first, [], 5, flX11, [(215, csX11_travelRefusal), (84, csX11_refuse), (219, csX10_findDays), (226, csX11_grantWay)], [], [], [], [], [], 6, 0, 0, (some .int), [], [], 0, 0)
theorem okX11_first (l : Launch) : q_Eok l RX11 cX11_first EX11_first := ⟨tX11_first_ok, flX11_ok, List.forall_mem_cons.mpr ⟨(coX11_215 l), List.forall_mem_cons.mpr ⟨(coX11_84 l), List.forall_mem_cons.mpr ⟨(coX11_219 l), List.forall_mem_cons.mpr ⟨(coX11_226 l), q_nil⟩⟩⟩⟩, q_nil, q_nil, q_nil, q_nil, q_nil, (fun h => absurd h (by decide))⟩
set_option maxRecDepth 100000 in
set_option maxHeartbeats 4000000 in
theorem ctX11_first (l : Launch) : q_CT l yX11_first (.code yX11_first cX11_first 5 (some .int)) 6 0 0 spX11_first := by
  refine q_ct_of EX11_first (by decide +kernel) (okX11_first l) rfl rfl rfl rfl rfl q_nil (fun ci h => by cases h) rfl ?_
  intro a w K h
  obtain ⟨tl, hb, td, tr, lf, tx, rb, N, B, R, L, G, B2, R2, L2, G2, P, W, S, Cc, Y, D, n, p, x, d, rfl, rfl, ho, hpl, hro, hre, hL, hB, hn, hK⟩ := h
  refine ⟨Nat.le_of_ble_eq_true rfl, fun C hC => hC _ _ _ _ _ _ ?_⟩
  refine ⟨_, _, _, _, _, _, p, x, d, B.1, P, rfl, rfl, And.intro (fun c => ?_) (fun c => ?_)⟩
  · rw [if_pos c] at hK
    obtain ⟨c1, c2, c3⟩ := trvR_0 c
    obtain ⟨p, rfl, hp⟩ := inI (by have := ho.1; omega) c1
    obtain ⟨x, rfl, hx⟩ := toldI hB hn c2
    obtain ⟨y, hy, hyn⟩ := hpl p hp
    have hcp : (nI p).toNatClampNeg = p := nI_clamp (by have := ho.1; omega)
    have hcx : (nI x).toNatClampNeg = x := nI_clamp (by omega)
    have hcy : (nI y).toNatClampNeg = y := nI_clamp (by omega)
    rw [hcp, hy, hcy, hcx] at hK
    refine ⟨P, R, L, B.1, _, W, n, p, y, d, rfl, rfl, ho, hro, hre, hL, hB, hn, hp, hy, by omega, vp_in_nI (by omega) (by omega), _, _, _, _, _, _, rfl, rfl, ?_⟩
    rw [hcx]; exact hK
  · rw [if_neg c] at hK
    exact ⟨_, _, _, _, _, _, rfl, rfl, hK⟩
