def cntI (x : Int32) (b0 b1 b2 b3 r l g p s c q d td tl : Int32) : Int32 :=
  if x = 0 then b0 else if x = 1 then b1 else if x = 2 then b2 else if x = 3 then b3 else if x = 4 then r else if x = 5 then l else if x = 6 then g else if x = 7 then p else if x = 8 then s else if x = 9 then c else if x = 10 then q else if x = 11 then d else if x = 12 then td else if x = 13 then tl else -1

def tX11_count : List q_I := [(0, .iload_n 1, 1, 0, 0), (1, .tableswitch 164 0 13 #[71, 71, 71, 71, 81, 92, 103, 114, 122, 130, 138, 146, 154, 159], 71, 0, 0), (72, .aload_n 0, 1, 0, 0), (73, .getfield 16, 3, 0, 0), (76, .getfield 338, 3, 0, 0), (79, .iload_n 1, 1, 0, 0), (80, .iaload, 1, 0, 0), (81, .ireturn, 1, 0, 0), (82, .aload_n 0, 1, 0, 0), (83, .getfield 16, 3, 0, 0), (86, .getfield 204, 3, 0, 0), (89, .getfield 208, 3, 0, 0), (92, .ireturn, 1, 0, 0), (93, .aload_n 0, 1, 0, 0), (94, .getfield 16, 3, 0, 0), (97, .getfield 104, 3, 0, 0), (100, .getfield 108, 3, 0, 0), (103, .ireturn, 1, 0, 0), (104, .aload_n 0, 1, 0, 0), (105, .getfield 16, 3, 0, 0), (108, .getfield 254, 3, 0, 0), (111, .getfield 341, 3, 0, 0), (114, .ireturn, 1, 0, 0), (115, .aload_n 0, 1, 0, 0), (116, .getfield 35, 3, 0, 0), (119, .getfield 123, 3, 0, 0), (122, .ireturn, 1, 0, 0), (123, .aload_n 0, 1, 0, 0), (124, .getfield 51, 3, 0, 0), (127, .getfield 244, 3, 0, 0), (130, .ireturn, 1, 0, 0), (131, .aload_n 0, 1, 0, 0), (132, .getfield 58, 3, 0, 0), (135, .getfield 125, 3, 0, 0), (138, .ireturn, 1, 0, 0), (139, .aload_n 0, 1, 0, 0), (140, .getfield 65, 3, 0, 0), (143, .getfield 290, 3, 0, 0), (146, .ireturn, 1, 0, 0), (147, .aload_n 0, 1, 0, 0), (148, .getfield 72, 3, 0, 0), (151, .getfield 305, 3, 0, 0), (154, .ireturn, 1, 0, 0), (155, .aload_n 0, 1, 0, 0), (156, .getfield 120, 3, 0, 0), (159, .ireturn, 1, 0, 0), (160, .aload_n 0, 1, 0, 0), (161, .getfield 76, 3, 0, 0), (164, .ireturn, 1, 0, 0), (165, .iconst (-1), 1, (-1), 0), (166, .ireturn, 1, 0, 0)]
theorem tX11_count_ok : (tX11_count.all (q_okI cX11_count)) = true := by decide +kernel

abbrev fdX11_count : List (Nat ⊕ (Nat × Nat)) := [.inl 0, .inr (0, 0), .inr (0, 2), .inr (2, 0), .inr (2, 1), .inr (2, 2), .inr (2, 3), .inr (2, 5), .inr (7, 0), .inr (7, 1), .inr (7, 2), .inr (7, 3), .inr (7, 4), .inr (7, 5), .inr (7, 6), .inr (2, 6), .inr (15, 0), .inr (15, 1), .inr (15, 2), .inr (15, 3), .inr (15, 4), .inr (15, 5), .inr (15, 6), .inr (2, 7), .inr (23, 0), .inr (23, 1), .inr (23, 2), .inr (23, 3), .inr (23, 4), .inr (23, 5), .inr (23, 6), .inr (23, 7), .inr (0, 3), .inr (32, 0), .inr (32, 1), .inr (32, 2), .inr (32, 3), .inr (32, 5), .inr (37, 0), .inr (37, 1), .inr (37, 2), .inr (37, 3), .inr (37, 4), .inr (37, 5), .inr (37, 6), .inr (32, 6), .inr (45, 0), .inr (45, 1), .inr (45, 2), .inr (45, 3), .inr (45, 4), .inr (45, 5), .inr (45, 6), .inr (32, 7), .inr (53, 0), .inr (53, 1), .inr (53, 2), .inr (53, 3), .inr (53, 4), .inr (53, 5), .inr (53, 6), .inr (53, 7), .inr (0, 4), .inr (62, 2), .inr (0, 7), .inr (64, 0), .inr (64, 1), .inr (64, 2), .inr (64, 3), .inr (64, 4), .inr (64, 5), .inr (0, 8), .inr (71, 1), .inr (71, 2), .inr (71, 3), .inr (71, 4), .inr (71, 5), .inr (71, 6), .inr (0, 9), .inr (78, 0), .inr (78, 1), .inr (78, 2), .inr (78, 3), .inr (78, 4), .inr (0, 10), .inr (84, 0), .inr (84, 1), .inr (84, 2), .inr (84, 3), .inr (84, 4), .inr (84, 5), .inr (84, 6), .inr (0, 11), .inr (92, 0), .inr (92, 1), .inr (92, 2), .inr (92, 3), .inr (92, 4), .inr (92, 5), .inr (0, 12), .inr (99, 0), .inr (99, 1), .inr (99, 2)]
def spX11_count : q_P := fun a w K => ∃ (tl : Nat) (hb : Bool) (td : Int32) (tr : Int32) (lf : Int32) (tx : Nat → Int32) (rb : Value) (N : NT) (B : BT) (R : RT) (L : LT) (G : GT) (B2 : BT) (R2 : RT) (L2 : LT) (G2 : GT) (P : PT) (W : WT) (S : ST) (Cc : CT) (Y : YT) (D : DT) (x : Int32), w = (stripW 0 tl hb td tr lf tx rb N B R L G B2 R2 L2 G2 P W S Cc Y D) ∧ a = [.ref 0, .int x] ∧ K (.inl (some (.int (cntI x (B.1 0) (B.1 1) (B.1 2) (B.1 3) (nI R.2.2.2.2.2.2.2) (nI L.2.2.2.2.2.2.2) (nI G.2.2.2.2.2.2.2.2) (nI P.2.2.2.2.2.2) (nI S.2.2.2.2.2.1) (nI Cc.2.2.2.2.2.2.2) (nI Y.2.2.2.2.2.2.2.1) (nI D.2.2.2) td (nI tl))))) (stripW 0 tl hb td tr lf tx rb N B R L G B2 R2 L2 G2 P W S Cc Y D)
abbrev csX11_count : q_S := (2, 11, 0, 2, 0, 0, fdX11_count, spX11_count)
def EX11_count : q_E := (tX11_count, [], 2, flX11, [], [], [], [], [], [], 0, 0, 0, (some .int), [], [], 0, 0)
theorem okX11_count (l : Launch) : q_Eok l RX11 cX11_count EX11_count := ⟨tX11_count_ok, flX11_ok, q_nil, q_nil, q_nil, q_nil, q_nil, q_nil, (fun h => absurd h (by decide))⟩
set_option maxRecDepth 100000 in
set_option maxHeartbeats 4000000 in
theorem ctX11_count (l : Launch) : q_CT l yX11_count (.code yX11_count cX11_count 2 (some .int)) 0 0 0 spX11_count := by
  refine q_ct_of EX11_count (by decide +kernel) (okX11_count l) rfl rfl rfl rfl rfl q_nil (fun ci h => by cases h) rfl ?_
  intro a w K h
  obtain ⟨tl, hb, td, tr, lf, tx, rb, N, B, R, L, G, B2, R2, L2, G2, P, W, S, Cc, Y, D, x, rfl, rfl, hK⟩ := h
  refine ⟨Nat.le_of_ble_eq_true rfl, fun C hC => hC _ _ _ _ _ _ ?_⟩
  refine ⟨?_, ⟨?_, ?_, ?_, ?_, ?_, ?_, ?_, ?_, ?_, ?_, ?_, ?_, ?_, ?_, trivial⟩, by decide, by decide, by decide⟩
  · intro c
    rw [cntI, if_neg (by rintro rfl; revert c; decide), if_neg (by rintro rfl; revert c; decide), if_neg (by rintro rfl; revert c; decide), if_neg (by rintro rfl; revert c; decide), if_neg (by rintro rfl; revert c; decide), if_neg (by rintro rfl; revert c; decide), if_neg (by rintro rfl; revert c; decide), if_neg (by rintro rfl; revert c; decide), if_neg (by rintro rfl; revert c; decide), if_neg (by rintro rfl; revert c; decide), if_neg (by rintro rfl; revert c; decide), if_neg (by rintro rfl; revert c; decide), if_neg (by rintro rfl; revert c; decide), if_neg (by rintro rfl; revert c; decide)] at hK
    exact hK
  · intro c
    have c : x = nI 0 := tI (by decide) c
    subst c
    exact ⟨vp_in_nI (by decide) (by decide), hK⟩
  · intro c
    have c : x = nI 1 := tI (by decide) c
    subst c
    exact ⟨vp_in_nI (by decide) (by decide), hK⟩
  · intro c
    have c : x = nI 2 := tI (by decide) c
    subst c
    exact ⟨vp_in_nI (by decide) (by decide), hK⟩
  · intro c
    have c : x = nI 3 := tI (by decide) c
    subst c
    exact ⟨vp_in_nI (by decide) (by decide), hK⟩
  · intro c
    have c : x = nI 4 := tI (by decide) c
    subst c
    exact hK
  · intro c
    have c : x = nI 5 := tI (by decide) c
    subst c
    exact hK
  · intro c
    have c : x = nI 6 := tI (by decide) c
    subst c
    exact hK
  · intro c
    have c : x = nI 7 := tI (by decide) c
    subst c
    exact hK
  · intro c
    have c : x = nI 8 := tI (by decide) c
    subst c
    exact hK
  · intro c
    have c : x = nI 9 := tI (by decide) c
    subst c
    exact hK
  · intro c
    have c : x = nI 10 := tI (by decide) c
    subst c
    exact hK
  · intro c
    have c : x = nI 11 := tI (by decide) c
    subst c
    exact hK
  · intro c
    have c : x = nI 12 := tI (by decide) c
    subst c
    exact hK
  · intro c
    have c : x = nI 13 := tI (by decide) c
    subst c
    exact hK
/-- the strip's object and what begins anew with a book -/
def stripN (tl hb td tr lf : Int32) (P : PT) (S : ST) (C : CT) (Y : YT) (D : DT) : List q_C := [.inr (11, [tk 0 0, .int tl, tk 0 2, tk 0 3, tk 0 4, .int hb, .int td, .ref 1, tk 0 8, .ref 8, .ref 14, .ref 22, .ref 29, .int tr, .int lf])] ++ (peopleW 1 P ++ (loadsW 8 S ++ (courtW 14 C ++ (treatyW 22 Y ++ ledgerW 29 D))))
def pZ (P : PT) : PT := (P.1, P.2.1, P.2.2.1, P.2.2.2.1, P.2.2.2.2.1, P.2.2.2.2.2.1, 0)
def sZ (S : ST) : ST := (S.1, S.2.1, S.2.2.1, S.2.2.2.1, S.2.2.2.2.1, 0, -1)
def cZ (C : CT) : CT := (C.1, C.2.1, C.2.2.1, C.2.2.2.1, C.2.2.2.2.1, C.2.2.2.2.2.1, C.2.2.2.2.2.2.1, 0)
def yZ (Y : YT) : YT := (zf 0 Y.1 9, Y.2.1, zf 0 Y.2.2.1 16, Y.2.2.2.1, Y.2.2.2.2.1, Y.2.2.2.2.2.1, Y.2.2.2.2.2.2.1, 0, 1)
def dZ (D : DT) : DT := (D.1, D.2.1, zf 0 D.2.2.1 30, 0)
def tX11_beginAnew : List q_I := [(0, .aload_n 0, 1, 0, 0), (1, .iconst 1, 1, 1, 0), (2, .putfield 116, 3, 0, 0), (5, .aload_n 0, 1, 0, 0), (6, .iconst 0, 1, 0, 0), (7, .putfield 120, 3, 0, 0), (10, .aload_n 0, 1, 0, 0), (11, .getfield 35, 3, 0, 0), (14, .iconst 0, 1, 0, 0), (15, .putfield 123, 3, 0, 0), (18, .aload_n 0, 1, 0, 0), (19, .getfield 51, 3, 0, 0), (22, .invokevirtual 124, 3, 0, 0), (25, .aload_n 0, 1, 0, 0), (26, .getfield 58, 3, 0, 0), (29, .iconst 0, 1, 0, 0), (30, .putfield 125, 3, 0, 0), (33, .aload_n 0, 1, 0, 0), (34, .getfield 65, 3, 0, 0), (37, .invokevirtual 126, 3, 0, 0), (40, .aload_n 0, 1, 0, 0), (41, .getfield 72, 3, 0, 0), (44, .invokevirtual 127, 3, 0, 0), (47, .return_, 1, 0, 0)]
theorem tX11_beginAnew_ok : (tX11_beginAnew.all (q_okI cX11_beginAnew)) = true := by decide +kernel

abbrev fdX11_beginAnew : List (Nat ⊕ (Nat × Nat)) := [.inl 0, .inr (0, 7), .inr (1, 0), .inr (1, 1), .inr (1, 2), .inr (1, 3), .inr (1, 4), .inr (1, 5), .inr (0, 9), .inr (8, 0), .inr (8, 1), .inr (8, 2), .inr (8, 3), .inr (8, 4), .inr (0, 10), .inr (14, 0), .inr (14, 1), .inr (14, 2), .inr (14, 3), .inr (14, 4), .inr (14, 5), .inr (14, 6), .inr (0, 11), .inr (22, 0), .inr (22, 1), .inr (22, 2), .inr (22, 3), .inr (22, 4), .inr (22, 5), .inr (0, 12), .inr (29, 0), .inr (29, 1), .inr (29, 2)]
def spX11_beginAnew : q_P := fun a w K => ∃ (tl hb td tr lf : Int32) (P : PT) (S : ST) (Cc : CT) (Y : YT) (D : DT), w = stripN tl hb td tr lf P S Cc Y D ∧ a = [.ref 0] ∧ K (.inl none) (stripN tl 1 0 tr lf (pZ P) (sZ S) (cZ Cc) (yZ Y) (dZ D))
abbrev csX11_beginAnew : q_S := (1, 11, 1, 1, 0, 0, fdX11_beginAnew, spX11_beginAnew)
theorem coX11_124 (l : Launch) : q_CO l RX11 124 csX5_clear := ⟨yX5_clear, cX5_clear, none, 0, ⟨by decide +kernel, by decide +kernel, by decide +kernel⟩, q_G_i 13 (by decide +kernel) rfl, Or.inl ⟨by decide, rfl, rfl, q_G_i 709 (by decide +kernel) rfl, q_G_i 710 (by decide +kernel) rfl, q_G_i 711 (by decide +kernel) rfl, Or.inl ⟨q_G_i 712 (by decide +kernel) rfl, ctX5_clear l⟩⟩⟩
theorem coX11_126 (l : Launch) : q_CO l RX11 126 csX9_clear := ⟨yX9_clear, cX9_clear, none, 0, ⟨by decide +kernel, by decide +kernel, by decide +kernel⟩, q_G_i 15 (by decide +kernel) rfl, Or.inl ⟨by decide, rfl, rfl, q_G_i 713 (by decide +kernel) rfl, q_G_i 714 (by decide +kernel) rfl, q_G_i 715 (by decide +kernel) rfl, Or.inl ⟨q_G_i 716 (by decide +kernel) rfl, ctX9_clear l⟩⟩⟩
theorem coX11_127 (l : Launch) : q_CO l RX11 127 csX4_clear := ⟨yX4_clear, cX4_clear, none, 0, ⟨by decide +kernel, by decide +kernel, by decide +kernel⟩, q_G_i 16 (by decide +kernel) rfl, Or.inl ⟨by decide, rfl, rfl, q_G_i 717 (by decide +kernel) rfl, q_G_i 718 (by decide +kernel) rfl, q_G_i 719 (by decide +kernel) rfl, Or.inl ⟨q_G_i 720 (by decide +kernel) rfl, ctX4_clear l⟩⟩⟩
def EX11_beginAnew : q_E := (tX11_beginAnew, [], 1, flX11, [(124, csX5_clear), (126, csX9_clear), (127, csX4_clear)], [], [], [], [], [], 1, 0, 0, none, [], [], 0, 0)
theorem okX11_beginAnew (l : Launch) : q_Eok l RX11 cX11_beginAnew EX11_beginAnew := ⟨tX11_beginAnew_ok, flX11_ok, List.forall_mem_cons.mpr ⟨(coX11_124 l), List.forall_mem_cons.mpr ⟨(coX11_126 l), List.forall_mem_cons.mpr ⟨(coX11_127 l), q_nil⟩⟩⟩, q_nil, q_nil, q_nil, q_nil, q_nil, (fun h => absurd h (by decide))⟩
set_option maxRecDepth 100000 in
set_option maxHeartbeats 4000000 in
theorem ctX11_beginAnew (l : Launch) : q_CT l yX11_beginAnew (.code yX11_beginAnew cX11_beginAnew 1 none) 1 0 0 spX11_beginAnew := by
  refine q_ct_of EX11_beginAnew (by decide +kernel) (okX11_beginAnew l) rfl rfl rfl rfl rfl q_nil (fun ci h => by cases h) rfl ?_
  intro a w K h
  obtain ⟨tl, hb, td, tr, lf, P, S, Cc, Y, D, rfl, rfl, hK⟩ := h
  refine ⟨Nat.le_of_ble_eq_true rfl, fun C hC => hC _ _ _ _ _ _ ?_⟩
  exact ⟨rfl, S, rfl, rfl, Y, rfl, rfl, D, rfl, rfl, hK⟩
theorem rReadL_mono {tx : Nat → Int32} {e : Nat} {k k' : Bool → ZT → Prop} (h : ∀ b Z', zE e Z' → k b Z' → k' b Z') : ∀ (n : Nat) (Z : ZT), zE e Z → rReadL tx k n Z → rReadL tx k' n Z
  | 0, Z, hz, hk => h _ (zN Z (failF Z.1 1)) hz hk
  | n + 1, Z, hz, hk => by
    rw [rReadL] at hk ⊢
    refine rLineK_mono hz (fun b Z' hz' hk => ?_) hk
    split
    · next c =>
      rw [if_pos c] at hk
      split
      · next c2 => rw [if_pos c2] at hk; exact h _ _ hz' hk
      · next c2 =>
        rw [if_neg c2] at hk
        split
        · next c3 => rw [if_pos c3] at hk; exact rReadL_mono h n (zN Z' (stepF tx Z'.1)) ⟨nE_step hz'.1, hz'.2⟩ hk
        · next c3 => rw [if_neg c3] at hk; exact h _ (zN Z' (failF Z'.1 1)) hz' hk
    · next c => rw [if_neg c] at hk; exact h _ _ hz' hk
theorem rReadK_mono {tx : Nat → Int32} {Z : ZT} {n : Nat} {al : Bool} {kn : Int32} {k k' : Bool → ZT → Prop} (hn : n ≤ 700) (hB : Z.2.1.2.2.2.2 ≤ 25) (hR : rOk Z.2.2.1) (hL : L_n Z.2.2.2.1 ≤ 24) (hG : gOk Z.2.2.2.2) (h : ∀ b Z', zE n Z' → k b Z' → k' b Z') (hk : rReadK tx Z n al kn k) : rReadK tx Z n al kn k' := by
  have hs0 : nOk (nUp (rStart Z.1 n al kn)) := ⟨hn, Nat.le_refl _, Nat.zero_le _⟩
  exact rReadL_mono h (n + 1) _ ⟨⟨(stepF_ok0 hs0).1, (stepF_ok0 hs0).2⟩, hB, hR, hL, hG⟩ hk
/-- the strip behind a book that was read: the two books have changed their parts, not their places -/
def stripV (o : Nat) (tl : Nat) (hb : Bool) (td tr lf : Int32) (tx : Nat → Int32) (rb : Value) (N : NT) (B : BT) (R : RT) (L : LT) (G : GT) (B2 : BT) (R2 : RT) (L2 : LT) (G2 : GT) (P : PT) (W : WT) (S : ST) (C : CT) (Y : YT) (D : DT) : List q_C :=
  [.inr (11, [.ref (o + 1), .int (nI tl), .ref (o + 32), .ref (o + 2), .ref (o + 62), .int (bI hb), .int td, .ref (o + 64), .ref (o + 71), .ref (o + 78), .ref (o + 84), .ref (o + 92), .ref (o + 99), .int tr, .int lf]), .inl (0, 700, .inl tx)] ++ (bookW (o + 2) B2 R2 L2 G2 ++ (bookW (o + 32) B R L G ++ ([.inr (7, [.int N.1, .int N.2.1, .ref (o + 63), .ref (o + 1), .int (nI N.2.2.1), rb, .int N.2.2.2.1, .int N.2.2.2.2.1, .int N.2.2.2.2.2.1, .int (nI N.2.2.2.2.2.2.1), .int (nI N.2.2.2.2.2.2.2.1), .long N.2.2.2.2.2.2.2.2.1, .int N.2.2.2.2.2.2.2.2.2]), .inl (2, 10, .inr rsv)] ++ (peopleW (o + 64) P ++ (waysW (o + 71) (.ref (o + 64)) W ++ (loadsW (o + 78) S ++ (courtW (o + 84) C ++ (treatyW (o + 92) Y ++ ledgerW (o + 99) D))))))))
def bz4 (B : BT) (R : RT) (L : LT) (G : GT) (N : NT) : ZT := (N, bookClear B, roadsZ R, lawsC L 0, giftsZ G)
def tX11_book : List q_I := [(0, .iload_n 1, 1, 0, 0), (1, .ifCond .lt 11, 3, 0, 12), (4, .iload_n 1, 1, 0, 0), (5, .aload_n 0, 1, 0, 0), (6, .getfield 76, 3, 0, 0), (9, .if_icmp .le 9, 3, 0, 18), (12, .aload_n 0, 1, 0, 0), (13, .iconst 2, 1, 2, 0), (14, .invokevirtual 84, 3, 0, 0), (17, .ireturn, 1, 0, 0), (18, .aload_n 0, 1, 0, 0), (19, .iconst 0, 1, 0, 0), (20, .putfield 76, 3, 0, 0), (23, .aload_n 0, 1, 0, 0), (24, .getfield 20, 3, 0, 0), (27, .invokevirtual 88, 3, 0, 0), (30, .aload_n 0, 1, 0, 0), (31, .getfield 28, 3, 0, 0), (34, .iload_n 1, 1, 0, 0), (35, .aload_n 0, 1, 0, 0), (36, .getfield 20, 3, 0, 0), (39, .iconst 0, 1, 0, 0), (40, .iconst 0, 1, 0, 0), (41, .invokevirtual 91, 3, 0, 0), (44, .istore_n 2, 1, 0, 0), (45, .aload_n 0, 1, 0, 0), (46, .aload_n 0, 1, 0, 0), (47, .getfield 28, 3, 0, 0), (50, .getfield 95, 3, 0, 0), (53, .putfield 98, 3, 0, 0), (56, .iload_n 2, 1, 0, 0), (57, .ifCond .ne 9, 3, 0, 66), (60, .aload_n 0, 1, 0, 0), (61, .iconst 4, 1, 4, 0), (62, .invokevirtual 84, 3, 0, 0), (65, .ireturn, 1, 0, 0), (66, .aload_n 0, 1, 0, 0), (67, .getfield 16, 3, 0, 0), (70, .astore_n 3, 1, 0, 0), (71, .aload_n 0, 1, 0, 0), (72, .aload_n 0, 1, 0, 0), (73, .getfield 20, 3, 0, 0), (76, .putfield 16, 3, 0, 0), (79, .aload_n 0, 1, 0, 0), (80, .aload_n 3, 1, 0, 0), (81, .putfield 20, 3, 0, 0), (84, .aload_n 0, 1, 0, 0), (85, .invokevirtual 101, 3, 0, 0), (88, .aload_n 0, 1, 0, 0), (89, .aload_n 0, 1, 0, 0), (90, .getfield 16, 3, 0, 0), (93, .getfield 104, 3, 0, 0), (96, .getfield 108, 3, 0, 0), (99, .invokevirtual 113, 3, 0, 0), (102, .ireturn, 1, 0, 0)]
theorem tX11_book_ok : (tX11_book.all (q_okI cX11_book)) = true := by decide +kernel

abbrev fdX11_book : List (Nat ⊕ (Nat × Nat)) := [.inl 0, .inr (0, 0), .inr (0, 2), .inr (2, 0), .inr (2, 1), .inr (2, 2), .inr (2, 3), .inr (2, 5), .inr (7, 0), .inr (7, 1), .inr (7, 2), .inr (7, 3), .inr (7, 4), .inr (7, 5), .inr (7, 6), .inr (2, 6), .inr (15, 0), .inr (15, 1), .inr (15, 2), .inr (15, 3), .inr (15, 4), .inr (15, 5), .inr (15, 6), .inr (2, 7), .inr (23, 0), .inr (23, 1), .inr (23, 2), .inr (23, 3), .inr (23, 4), .inr (23, 5), .inr (23, 6), .inr (23, 7), .inr (0, 3), .inr (32, 0), .inr (32, 1), .inr (32, 2), .inr (32, 3), .inr (32, 5), .inr (37, 0), .inr (37, 1), .inr (37, 2), .inr (37, 3), .inr (37, 4), .inr (37, 5), .inr (37, 6), .inr (32, 6), .inr (45, 0), .inr (45, 1), .inr (45, 2), .inr (45, 3), .inr (45, 4), .inr (45, 5), .inr (45, 6), .inr (32, 7), .inr (53, 0), .inr (53, 1), .inr (53, 2), .inr (53, 3), .inr (53, 4), .inr (53, 5), .inr (53, 6), .inr (53, 7), .inr (0, 4), .inr (62, 2), .inr (0, 7), .inr (64, 0), .inr (64, 1), .inr (64, 2), .inr (64, 3), .inr (64, 4), .inr (64, 5), .inr (0, 8), .inr (71, 1), .inr (71, 2), .inr (71, 3), .inr (71, 4), .inr (71, 5), .inr (71, 6), .inr (0, 9), .inr (78, 0), .inr (78, 1), .inr (78, 2), .inr (78, 3), .inr (78, 4), .inr (0, 10), .inr (84, 0), .inr (84, 1), .inr (84, 2), .inr (84, 3), .inr (84, 4), .inr (84, 5), .inr (84, 6), .inr (0, 11), .inr (92, 0), .inr (92, 1), .inr (92, 2), .inr (92, 3), .inr (92, 4), .inr (92, 5), .inr (0, 12), .inr (99, 0), .inr (99, 1), .inr (99, 2)]
def spX11_book : q_P := fun a w K => ∃ (tl : Nat) (hb : Bool) (td : Int32) (tr : Int32) (lf : Int32) (tx : Nat → Int32) (rb : Value) (N : NT) (B : BT) (R : RT) (L : LT) (G : GT) (B2 : BT) (R2 : RT) (L2 : LT) (G2 : GT) (P : PT) (W : WT) (S : ST) (Cc : CT) (Y : YT) (D : DT) (x : Int32), w = (stripW 0 tl hb td tr lf tx rb N B R L G B2 R2 L2 G2 P W S Cc Y D) ∧ a = [.ref 0, .int x] ∧ tl ≤ 700 ∧ (rb = .ref 2 ∨ rb = .ref 32) ∧ (if 0 ≤ x ∧ x ≤ nI tl then rReadK tx (bz4 B2 R2 L2 G2 N) x.toNatClampNeg false 0 (fun b Z => if b = true then K (.inl (some (.int (nI Z.2.2.2.1.2.2.2.2.2.2.2)))) (stripV 0 0 true 0 0 Z.1.1 tx (.ref 32) Z.1 Z.2.1 Z.2.2.1 Z.2.2.2.1 Z.2.2.2.2 B R L G (pZ P) W (sZ S) (cZ Cc) (yZ Y) (dZ D)) else K (.inl (some (.int (-1)))) (stripW 0 (0) hb td (4) (Z.1.1) tx (.ref 32) (Z.1) B R L G (Z.2.1) (Z.2.2.1) (Z.2.2.2.1) (Z.2.2.2.2) P W S Cc Y D)) else K (.inl (some (.int (-1)))) (stripW 0 tl hb td (2) lf tx rb N B R L G B2 R2 L2 G2 P W S Cc Y D))
abbrev csX11_book : q_S := (2, 11, 10, 4, 0, 0, fdX11_book, spX11_book)
theorem coX11_88 (l : Launch) : q_CO l RX11 88 csX0_clear := ⟨yX0_clear, cX0_clear, none, 0, ⟨by decide +kernel, by decide +kernel, by decide +kernel⟩, q_G_i 2 (by decide +kernel) rfl, Or.inl ⟨by decide, rfl, rfl, q_G_i 561 (by decide +kernel) rfl, q_G_i 562 (by decide +kernel) rfl, q_G_i 563 (by decide +kernel) rfl, Or.inl ⟨q_G_i 564 (by decide +kernel) rfl, ctX0_clear l⟩⟩⟩
theorem coX11_91 (l : Launch) : q_CO l RX11 91 csX7_read := ⟨yX7_read, cX7_read, (some .boolean), 4, ⟨by decide +kernel, by decide +kernel, by decide +kernel⟩, q_G_i 6 (by decide +kernel) rfl, Or.inl ⟨by decide, rfl, rfl, q_G_i 565 (by decide +kernel) rfl, q_G_i 566 (by decide +kernel) rfl, q_G_i 567 (by decide +kernel) rfl, Or.inl ⟨q_G_i 568 (by decide +kernel) rfl, ctX7_read l⟩⟩⟩
theorem coX11_101 (l : Launch) : q_CO l RX11 101 csX11_beginAnew := ⟨yX11_beginAnew, cX11_beginAnew, none, 0, ⟨by decide +kernel, by decide +kernel, by decide +kernel⟩, q_G_i 1 (by decide +kernel) rfl, Or.inl ⟨by decide, rfl, rfl, q_G_i 705 (by decide +kernel) rfl, q_G_i 707 (by decide +kernel) rfl, q_G_s (n := 15) 19 (by decide +kernel), Or.inl ⟨q_G_i 708 (by decide +kernel) rfl, ctX11_beginAnew l⟩⟩⟩
def EX11_book : q_E := (tX11_book, [], 4, flX11, [(84, csX11_refuse), (88, csX0_clear), (91, csX7_read), (101, csX11_beginAnew), (113, csX11_grant)], [], [], [], [], [], 10, 0, 0, (some .int), [], [], 0, 0)
theorem okX11_book (l : Launch) : q_Eok l RX11 cX11_book EX11_book := ⟨tX11_book_ok, flX11_ok, List.forall_mem_cons.mpr ⟨(coX11_84 l), List.forall_mem_cons.mpr ⟨(coX11_88 l), List.forall_mem_cons.mpr ⟨(coX11_91 l), List.forall_mem_cons.mpr ⟨(coX11_101 l), List.forall_mem_cons.mpr ⟨(coX11_113 l), q_nil⟩⟩⟩⟩⟩, q_nil, q_nil, q_nil, q_nil, q_nil, (fun h => absurd h (by decide))⟩
set_option maxRecDepth 100000 in
set_option maxHeartbeats 4000000 in
theorem ctX11_book (l : Launch) : q_CT l yX11_book (.code yX11_book cX11_book 4 (some .int)) 10 0 0 spX11_book := by
  refine q_ct_of EX11_book (by decide +kernel) (okX11_book l) rfl rfl rfl rfl rfl q_nil (fun ci h => by cases h) rfl ?_
  intro a w K h
  obtain ⟨tl, hb, td, tr, lf, tx, rb, N, B, R, L, G, B2, R2, L2, G2, P, W, S, Cc, Y, D, x, rfl, rfl, ht, hrb, hK⟩ := h
  refine ⟨Nat.le_of_ble_eq_true rfl, fun C hC => hC _ _ _ _ _ _ ?_⟩
  refine And.intro (fun c => ?_) (fun c => And.intro (fun c2 => ?_) (fun c2 => ?_))
  · rw [if_neg (fun z => absurd c (Int32.not_lt.mpr z.1))] at hK
    exact ⟨_, _, _, _, _, _, rfl, rfl, hK⟩
  · have c9 := And.intro (Int32.not_lt.mp c) c2
    rw [if_pos c9] at hK
    obtain ⟨n, rfl, hn⟩ := inI (n := tl + 1) (x := x) (by omega) ⟨c9.1, by rw [← nI_1]; exact (by
      have h1 := c9.2
      rw [Int32.le_iff_toInt_le, nI_toInt (by omega)] at h1
      rw [Int32.lt_iff_toInt_lt, nI_1, nI_toInt (by omega)]
      omega)⟩
    rw [nI_clamp (by omega)] at hK
    have hR0 : rOk (roadsZ R2) := ⟨Nat.zero_le _, fun r hr => absurd hr (Nat.not_lt_zero r)⟩
    have hG0 : gOk (giftsZ G2) := ⟨Nat.zero_le _, fun r hr => absurd hr (Nat.not_lt_zero r)⟩
    refine ⟨B2, R2, L2, G2, rfl, rfl, ?_⟩
    rcases hrb with rfl | rfl
    · refine ⟨tx, bz4 B2 R2 L2 G2 N, _, n, false, 0, rfl, rfl, by omega, Nat.zero_le _, hR0, Nat.zero_le _, hG0, rReadK_mono (by omega) (Nat.zero_le _) hR0 (Nat.zero_le _) hG0 (fun b Z hz hk => ?_) hK⟩
      cases b with
      | true => exact And.intro (fun _ => ⟨_, _, _, _, _, P, S, Cc, Y, D, rfl, rfl, _, _, _, _, _, _, rfl, rfl, hk⟩) (fun z => absurd z (by decide))
      | false => exact And.intro (fun z => absurd rfl z) (fun _ => ⟨_, _, _, _, _, _, rfl, rfl, hk⟩)
    · refine ⟨tx, bz4 B2 R2 L2 G2 N, _, n, false, 0, rfl, rfl, by omega, Nat.zero_le _, hR0, Nat.zero_le _, hG0, rReadK_mono (by omega) (Nat.zero_le _) hR0 (Nat.zero_le _) hG0 (fun b Z hz hk => ?_) hK⟩
      cases b with
      | true => exact And.intro (fun _ => ⟨_, _, _, _, _, P, S, Cc, Y, D, rfl, rfl, _, _, _, _, _, _, rfl, rfl, hk⟩) (fun z => absurd z (by decide))
      | false => exact And.intro (fun z => absurd rfl z) (fun _ => ⟨_, _, _, _, _, _, rfl, rfl, hk⟩)
  · rw [if_neg (fun z => c2 z.2)] at hK
    exact ⟨_, _, _, _, _, _, rfl, rfl, hK⟩
def tX11_laws : List q_I := [(0, .aload_n 0, 1, 0, 0), (1, .getfield 116, 3, 0, 0), (4, .ifCond .ne 9, 3, 0, 13), (7, .aload_n 0, 1, 0, 0), (8, .iconst 1, 1, 1, 0), (9, .invokevirtual 84, 3, 0, 0), (12, .ireturn, 1, 0, 0), (13, .iload_n 1, 1, 0, 0), (14, .ifCond .lt 11, 3, 0, 25), (17, .iload_n 1, 1, 0, 0), (18, .aload_n 0, 1, 0, 0), (19, .getfield 76, 3, 0, 0), (22, .if_icmp .le 9, 3, 0, 31), (25, .aload_n 0, 1, 0, 0), (26, .iconst 2, 1, 2, 0), (27, .invokevirtual 84, 3, 0, 0), (30, .ireturn, 1, 0, 0), (31, .aload_n 0, 1, 0, 0), (32, .iconst 0, 1, 0, 0), (33, .putfield 76, 3, 0, 0), (36, .aload_n 0, 1, 0, 0), (37, .getfield 16, 3, 0, 0), (40, .getfield 104, 3, 0, 0), (43, .getfield 108, 3, 0, 0), (46, .istore_n 2, 1, 0, 0), (47, .aload_n 0, 1, 0, 0), (48, .getfield 28, 3, 0, 0), (51, .iload_n 1, 1, 0, 0), (52, .aload_n 0, 1, 0, 0), (53, .getfield 16, 3, 0, 0), (56, .iconst 1, 1, 1, 0), (57, .aload_n 0, 1, 0, 0), (58, .getfield 120, 3, 0, 0), (61, .invokevirtual 91, 3, 0, 0), (64, .istore_n 3, 1, 0, 0), (65, .aload_n 0, 1, 0, 0), (66, .aload_n 0, 1, 0, 0), (67, .getfield 28, 3, 0, 0), (70, .getfield 95, 3, 0, 0), (73, .putfield 98, 3, 0, 0), (76, .iload_n 3, 1, 0, 0), (77, .ifCond .ne 20, 3, 0, 97), (80, .aload_n 0, 1, 0, 0), (81, .getfield 16, 3, 0, 0), (84, .getfield 104, 3, 0, 0), (87, .iload_n 2, 1, 0, 0), (88, .putfield 108, 3, 0, 0), (91, .aload_n 0, 1, 0, 0), (92, .iconst 4, 1, 4, 0), (93, .invokevirtual 84, 3, 0, 0), (96, .ireturn, 1, 0, 0), (97, .aload_n 0, 1, 0, 0), (98, .aload_n 0, 1, 0, 0), (99, .getfield 16, 3, 0, 0), (102, .getfield 104, 3, 0, 0), (105, .getfield 108, 3, 0, 0), (108, .invokevirtual 113, 3, 0, 0), (111, .ireturn, 1, 0, 0)]
theorem tX11_laws_ok : (tX11_laws.all (q_okI cX11_laws)) = true := by decide +kernel

abbrev fdX11_laws : List (Nat ⊕ (Nat × Nat)) := [.inl 0, .inr (0, 0), .inr (0, 2), .inr (2, 0), .inr (2, 1), .inr (2, 2), .inr (2, 3), .inr (2, 5), .inr (7, 0), .inr (7, 1), .inr (7, 2), .inr (7, 3), .inr (7, 4), .inr (7, 5), .inr (7, 6), .inr (2, 6), .inr (15, 0), .inr (15, 1), .inr (15, 2), .inr (15, 3), .inr (15, 4), .inr (15, 5), .inr (15, 6), .inr (2, 7), .inr (23, 0), .inr (23, 1), .inr (23, 2), .inr (23, 3), .inr (23, 4), .inr (23, 5), .inr (23, 6), .inr (23, 7), .inr (0, 3), .inr (32, 0), .inr (32, 1), .inr (32, 2), .inr (32, 3), .inr (32, 5), .inr (37, 0), .inr (37, 1), .inr (37, 2), .inr (37, 3), .inr (37, 4), .inr (37, 5), .inr (37, 6), .inr (32, 6), .inr (45, 0), .inr (45, 1), .inr (45, 2), .inr (45, 3), .inr (45, 4), .inr (45, 5), .inr (45, 6), .inr (32, 7), .inr (53, 0), .inr (53, 1), .inr (53, 2), .inr (53, 3), .inr (53, 4), .inr (53, 5), .inr (53, 6), .inr (53, 7), .inr (0, 4), .inr (62, 2), .inr (0, 7), .inr (64, 0), .inr (64, 1), .inr (64, 2), .inr (64, 3), .inr (64, 4), .inr (64, 5), .inr (0, 8), .inr (71, 1), .inr (71, 2), .inr (71, 3), .inr (71, 4), .inr (71, 5), .inr (71, 6), .inr (0, 9), .inr (78, 0), .inr (78, 1), .inr (78, 2), .inr (78, 3), .inr (78, 4), .inr (0, 10), .inr (84, 0), .inr (84, 1), .inr (84, 2), .inr (84, 3), .inr (84, 4), .inr (84, 5), .inr (84, 6), .inr (0, 11), .inr (92, 0), .inr (92, 1), .inr (92, 2), .inr (92, 3), .inr (92, 4), .inr (92, 5), .inr (0, 12), .inr (99, 0), .inr (99, 1), .inr (99, 2)]
def spX11_laws : q_P := fun a w K => ∃ (tl : Nat) (hb : Bool) (td : Int32) (tr : Int32) (lf : Int32) (tx : Nat → Int32) (rb : Value) (N : NT) (B : BT) (R : RT) (L : LT) (G : GT) (B2 : BT) (R2 : RT) (L2 : LT) (G2 : GT) (P : PT) (W : WT) (S : ST) (Cc : CT) (Y : YT) (D : DT) (x : Int32), w = (stripW 0 tl hb td tr lf tx rb N B R L G B2 R2 L2 G2 P W S Cc Y D) ∧ a = [.ref 0, .int x] ∧ tl ≤ 700 ∧ (rb = .ref 2 ∨ rb = .ref 32) ∧ B.2.2.2.2 ≤ 25 ∧ rOk R ∧ L_n L ≤ 24 ∧ gOk G ∧ (if hb = true then (if 0 ≤ x ∧ x ≤ nI tl then rReadK tx (N, B, R, L, G) x.toNatClampNeg true td (fun b Z => if b = true then K (.inl (some (.int (nI Z.2.2.2.1.2.2.2.2.2.2.2)))) (stripW 0 (0) hb td (0) (Z.1.1) tx (.ref 2) (Z.1) (Z.2.1) (Z.2.2.1) (Z.2.2.2.1) (Z.2.2.2.2) B2 R2 L2 G2 P W S Cc Y D) else K (.inl (some (.int (-1)))) (stripW 0 (0) hb td (4) (Z.1.1) tx (.ref 2) (Z.1) (Z.2.1) (Z.2.2.1) (lawsC Z.2.2.2.1 (L_n L)) (Z.2.2.2.2) B2 R2 L2 G2 P W S Cc Y D)) else K (.inl (some (.int (-1)))) (stripW 0 tl hb td (2) lf tx rb N B R L G B2 R2 L2 G2 P W S Cc Y D)) else K (.inl (some (.int (-1)))) (stripW 0 tl hb td (1) lf tx rb N B R L G B2 R2 L2 G2 P W S Cc Y D))
abbrev csX11_laws : q_S := (2, 11, 10, 4, 0, 0, fdX11_laws, spX11_laws)
def EX11_laws : q_E := (tX11_laws, [], 4, flX11, [(84, csX11_refuse), (91, csX7_read), (113, csX11_grant)], [], [], [], [], [], 10, 0, 0, (some .int), [], [], 0, 0)
theorem okX11_laws (l : Launch) : q_Eok l RX11 cX11_laws EX11_laws := ⟨tX11_laws_ok, flX11_ok, List.forall_mem_cons.mpr ⟨(coX11_84 l), List.forall_mem_cons.mpr ⟨(coX11_91 l), List.forall_mem_cons.mpr ⟨(coX11_113 l), q_nil⟩⟩⟩, q_nil, q_nil, q_nil, q_nil, q_nil, (fun h => absurd h (by decide))⟩
set_option maxRecDepth 100000 in
set_option maxHeartbeats 4000000 in
theorem ctX11_laws (l : Launch) : q_CT l yX11_laws (.code yX11_laws cX11_laws 4 (some .int)) 10 0 0 spX11_laws := by
  refine q_ct_of EX11_laws (by decide +kernel) (okX11_laws l) rfl rfl rfl rfl rfl q_nil (fun ci h => by cases h) rfl ?_
  intro a w K h
  obtain ⟨tl, hb, td, tr, lf, tx, rb, N, B, R, L, G, B2, R2, L2, G2, P, W, S, Cc, Y, D, x, rfl, rfl, ht, hrb, hB, hR, hL, hG, hK⟩ := h
  refine ⟨Nat.le_of_ble_eq_true rfl, fun C hC => hC _ _ _ _ _ _ ?_⟩
  refine And.intro (fun c0 => ?_) (fun c0 => ?_)
  rotate_left
  · rw [if_neg (by rw [bI_0.mp c0]; decide)] at hK
    exact ⟨_, _, _, _, _, _, rfl, rfl, hK⟩
  rw [if_pos (bI_n0.mp c0)] at hK
  refine And.intro (fun c => ?_) (fun c => And.intro (fun c2 => ?_) (fun c2 => ?_))
  · rw [if_neg (fun z => absurd c (Int32.not_lt.mpr z.1))] at hK
    exact ⟨_, _, _, _, _, _, rfl, rfl, hK⟩
  · have c9 := And.intro (Int32.not_lt.mp c) c2
    rw [if_pos c9] at hK
    obtain ⟨n, rfl, hn⟩ := inI (n := tl + 1) (x := x) (by omega) ⟨c9.1, by rw [← nI_1]; exact (by
      have h1 := c9.2
      rw [Int32.le_iff_toInt_le, nI_toInt (by omega)] at h1
      rw [Int32.lt_iff_toInt_lt, nI_1, nI_toInt (by omega)]
      omega)⟩
    rw [nI_clamp (by omega)] at hK
    rcases hrb with rfl | rfl
    · refine ⟨tx, (N, B, R, L, G), _, n, true, td, rfl, rfl, by omega, hB, hR, hL, hG, rReadK_mono (by omega) hB hR hL hG (fun b Z hz hk => ?_) hK⟩
      cases b with
      | true => exact And.intro (fun _ => ⟨_, _, _, _, _, _, rfl, rfl, hk⟩) (fun z => absurd z (by decide))
      | false => exact And.intro (fun z => absurd rfl z) (fun _ => ⟨_, _, _, _, _, _, rfl, rfl, hk⟩)
    · refine ⟨tx, (N, B, R, L, G), _, n, true, td, rfl, rfl, by omega, hB, hR, hL, hG, rReadK_mono (by omega) hB hR hL hG (fun b Z hz hk => ?_) hK⟩
      cases b with
      | true => exact And.intro (fun _ => ⟨_, _, _, _, _, _, rfl, rfl, hk⟩) (fun z => absurd z (by decide))
      | false => exact And.intro (fun z => absurd rfl z) (fun _ => ⟨_, _, _, _, _, _, rfl, rfl, hk⟩)
  · rw [if_neg (fun z => c2 z.2)] at hK
    exact ⟨_, _, _, _, _, _, rfl, rfl, hK⟩
