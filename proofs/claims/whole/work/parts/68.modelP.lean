def modelJ (bk fr : Value) (th : Int32) (tr : Int32) (wh : Int32) (fa : Int32) (ta : Nat) (sz : Int32) (ix : Int32) (so : Int32) (pl : Int32) (nu : Int32) (wd : Int64) (td : Int32) (mk : Int32) (mo : Int32) (tx : Nat → Int32) (P : PT) (D : DT) (ea : Nat → Int32) (pa : Nat → Int32) (co : Nat → Int32) (S : ST) (Cc : CT) (V : VT) (ba : Nat → Int32) (B : BT) (R : RT) (L : LT) (G : GT) (sk : Int32) (sp : Int32) (B2 : BT) (R2 : RT) (L2 : LT) (G2 : GT) : List q_C := modelA 0 bk fr (.ref 57) th tr wh fa ta sz ix so pl nu wd td mk mo tx P D ea pa co S Cc V ba ++ (mbookW 31 B R L G ++ ([.inr (13, [.null, .null, .null, .null, .null, .int 0, .int sk, .int sp])] ++ mbookW 58 B2 R2 L2 G2))
def modelY (bk fr : Value) (th : Int32) (tr : Int32) (wh : Int32) (fa : Int32) (ta : Nat) (sz : Int32) (ix : Int32) (so : Int32) (pl : Int32) (nu : Int32) (wd : Int64) (td : Int32) (mk : Int32) (mo : Int32) (tx : Nat → Int32) (P : PT) (D : DT) (ea : Nat → Int32) (pa : Nat → Int32) (co : Nat → Int32) (S : ST) (Cc : CT) (V : VT) (ba : Nat → Int32) (sk : Int32) (sp : Int32) (B2 : BT) (R2 : RT) (L2 : LT) (G2 : GT) : List q_C := modelA 0 bk fr (.ref 31) th tr wh fa ta sz ix so pl nu wd td mk mo tx P D ea pa co S Cc V ba ++ ([.inr (13, [.null, .null, .null, .null, .null, .int 0, .int sk, .int sp])] ++ mbookW 32 B2 R2 L2 G2)
def modelYN (fr : Value) (th : Int32) (tr : Int32) (wh : Int32) (fa : Int32) (ta : Nat) (sz : Int32) (ix : Int32) (so : Int32) (pl : Int32) (nu : Int32) (wd : Int64) (td : Int32) (mk : Int32) (mo : Int32) (tx : Nat → Int32) (P : PT) (D : DT) (ea : Nat → Int32) (pa : Nat → Int32) (co : Nat → Int32) (S : ST) (Cc : CT) (V : VT) (ba : Nat → Int32) (sk : Int32) (sp : Int32) : List q_C := modelA 0 .null fr (.ref 31) th tr wh fa ta sz ix so pl nu wd td mk mo tx P D ea pa co S Cc V ba ++ [.inr (13, [.null, .null, .null, .null, .null, .int 0, .int sk, .int sp])]
theorem mLineK_mono {tx : Nat → Int32} {n : Nat} {B : BT} {R : RT} {L : LT} {G : GT} {Q : QT} {k k2 : QT → BT → RT → LT → GT → Prop} {kf kf2 : Int32 → Nat → Prop} (hQ : Q.1 ≤ n) (hB : bInv B) (hR : rInv R) (hL : L_n L ≤ 24) (hG : gInv G) (h : ∀ Q' B' R' L' G', Q'.1 ≤ n → bInv B' → rInv R' → L_n L' ≤ 24 → gInv G' → k Q' B' R' L' G' → k2 Q' B' R' L' G') (hf : ∀ e p, kf e p → kf2 e p) (hk : mLineK tx n B R L G Q k kf) : mLineK tx n B R L G Q k2 kf2 := by
  unfold mLineK at hk ⊢
  split
  · next c => rw [if_pos c] at hk; exact mThK_mono (s := 0) hQ hB (by decide) (fun Q' B' hQ' _ hB' hk => h Q' B' R L G hQ' hB' hR hL hG hk) hf hk
  next c =>
  rw [if_neg c] at hk
  split
  · next c => rw [if_pos c] at hk; exact mThK_mono (s := 1) hQ hB (by decide) (fun Q' B' hQ' _ hB' hk => h Q' B' R L G hQ' hB' hR hL hG hk) hf hk
  next c =>
  rw [if_neg c] at hk
  split
  · next c => rw [if_pos c] at hk; exact mThK_mono (s := 2) hQ hB (by decide) (fun Q' B' hQ' _ hB' hk => h Q' B' R L G hQ' hB' hR hL hG hk) hf hk
  next c =>
  rw [if_neg c] at hk
  split
  · next c => rw [if_pos c] at hk; exact mThK_mono (s := 3) hQ hB (by decide) (fun Q' B' hQ' _ hB' hk => h Q' B' R L G hQ' hB' hR hL hG hk) hf hk
  next c =>
  rw [if_neg c] at hk
  split
  · next c => rw [if_pos c] at hk; exact mRoadK_mono hQ hR (fun Q' R' hQ' _ hR' hk => h Q' B R' L G hQ' hB hR' hL hG hk) hf hk
  next c =>
  rw [if_neg c] at hk
  split
  · next c => rw [if_pos c] at hk; exact mLawK_mono hQ hL (fun Q' L' hQ' _ _ hL' _ hk => h Q' B R L' G hQ' hB hR hL' hG hk) hf hk
  next c =>
  rw [if_neg c] at hk
  split
  · next c => rw [if_pos c] at hk; exact mGiftK_mono hQ hG (fun Q' G' hQ' _ hG' hk => h Q' B R L G' hQ' hB hR hL hG' hk) hf hk
  next c =>
  rw [if_neg c] at hk
  exact hf _ _ hk
theorem mBookL_mono {tx : Nat → Int32} {n : Nat} {k k2 : QT → BT → RT → LT → GT → Prop} {kf kf2 : Int32 → Nat → Prop} (h : ∀ Q' B' R' L' G', k Q' B' R' L' G' → k2 Q' B' R' L' G') (hf : ∀ e p, kf e p → kf2 e p) : ∀ f (Q : QT) (B : BT) (R : RT) (L : LT) (G : GT), Q.1 ≤ n → bInv B → rInv R → L_n L ≤ 24 → gInv G → mBookL tx n k kf f Q B R L G → mBookL tx n k2 kf2 f Q B R L G
  | 0, Q, B, R, L, G, _, _, _, _, _, hk => hf _ _ hk
  | f + 1, Q, B, R, L, G, hQ, hB, hR, hL, hG, hk => by
    rw [mBookL] at hk ⊢
    refine mLineK_mono hQ hB hR hL hG (fun Q' B' R' L' G' hQ' hB' hR' hL' hG' hk => ?_) hf hk
    split
    · next c2 => rw [if_pos c2] at hk; exact mBookL_mono h hf f _ _ _ _ _ (nxF_le hQ') hB' hR' hL' hG' hk
    · next c2 =>
      rw [if_neg c2] at hk
      split
      · next c3 => rw [if_pos c3] at hk; exact h _ _ _ _ _ hk
      · next c3 => rw [if_neg c3] at hk; exact hf _ _ hk
theorem zB_i : bInv zBT := ⟨0, 0, 0, 0, rfl, rfl, rfl, rfl, by omega, by omega, by omega, by omega, rfl⟩
theorem zR_i : rInv zRT := ⟨Nat.zero_le _, fun _ _ => rfl⟩
theorem zG_i : gInv zGT := ⟨Nat.zero_le _, fun _ _ => rfl⟩
def vZ (V : VT) (i : Nat) : VT := (zf 0 V.1 i, V.2.1, V.2.2.1, V.2.2.2.1, V.2.2.2.2.1, V.2.2.2.2.2.1, 0)
def dN (D : DT) : DT := (D.1, D.2.1, D.2.2.1, 0)

def tX14_book : List q_I := [(0, .aload_n 0, 1, 0, 0), (1, .iconst 0, 1, 0, 0), (2, .putfield 123, 3, 0, 0), (5, .iload_n 1, 1, 0, 0), (6, .ifCond .lt 11, 3, 0, 17), (9, .iload_n 1, 1, 0, 0), (10, .aload_n 0, 1, 0, 0), (11, .getfield 359, 3, 0, 0), (14, .if_icmp .le 9, 3, 0, 23), (17, .aload_n 0, 1, 0, 0), (18, .iconst 2, 1, 2, 0), (19, .invokevirtual 365, 3, 0, 0), (22, .ireturn, 1, 0, 0), (23, .aload_n 0, 1, 0, 0), (24, .iload_n 1, 1, 0, 0), (25, .invokevirtual 368, 3, 0, 0), (28, .aload_n 0, 1, 0, 0), (29, .new 220, 3, 0, 0), (32, .dup, 1, 0, 0), (33, .invokespecial 371, 3, 0, 0), (36, .putfield 215, 3, 0, 0), (39, .aload_n 0, 1, 0, 0), (40, .invokevirtual 204, 3, 0, 0), (43, .aload_n 0, 1, 0, 0), (44, .invokevirtual 372, 3, 0, 0), (47, .goto 10, 3, 0, 57), (50, .astore_n 2, 1, 0, 0), (51, .aload_n 0, 1, 0, 0), (52, .aload_n 2, 1, 0, 0), (53, .invokevirtual 375, 3, 0, 0), (56, .ireturn, 1, 0, 0), (57, .aload_n 0, 1, 0, 0), (58, .aload_n 0, 1, 0, 0), (59, .getfield 215, 3, 0, 0), (62, .putfield 379, 3, 0, 0), (65, .aload_n 0, 1, 0, 0), (66, .iconst 0, 1, 0, 0), (67, .putfield 243, 3, 0, 0), (70, .aload_n 0, 1, 0, 0), (71, .iconst 0, 1, 0, 0), (72, .putfield 382, 3, 0, 0), (75, .aload_n 0, 1, 0, 0), (76, .iconst 0, 1, 0, 0), (77, .putfield 385, 3, 0, 0), (80, .aload_n 0, 1, 0, 0), (81, .iconst (-1), 1, (-1), 0), (82, .putfield 63, 3, 0, 0), (85, .aload_n 0, 1, 0, 0), (86, .iconst 0, 1, 0, 0), (87, .putfield 388, 3, 0, 0), (90, .aload_n 0, 1, 0, 0), (91, .iconst 0, 1, 0, 0), (92, .putfield 391, 3, 0, 0), (95, .aload_n 0, 1, 0, 0), (96, .iconst 0, 1, 0, 0), (97, .putfield 394, 3, 0, 0), (100, .iconst 0, 1, 0, 0), (101, .istore_n 2, 1, 0, 0), (102, .iload_n 2, 1, 0, 0), (103, .bipush 9, 2, 9, 0), (105, .if_icmp .ge 16, 3, 0, 121), (108, .aload_n 0, 1, 0, 0), (109, .getfield 96, 3, 0, 0), (112, .iload_n 2, 1, 0, 0), (113, .iconst 0, 1, 0, 0), (114, .iastore, 1, 0, 0), (115, .iinc 2 1, 3, 1, 0), (118, .goto (-16), 3, 0, 102), (121, .aload_n 0, 1, 0, 0), (122, .aload_n 0, 1, 0, 0), (123, .getfield 379, 3, 0, 0), (126, .getfield 294, 3, 0, 0), (129, .invokevirtual 397, 3, 0, 0), (132, .ireturn, 1, 0, 0)]
theorem tX14_book_ok : (tX14_book.all (q_okI cX14_book)) = true := by decide +kernel

abbrev fdX14_book : List (Nat ⊕ (Nat × Nat)) := [.inl 0, .inr (0, 7), .inr (0, 17), .inr (0, 18), .inr (0, 19), .inr (0, 20), .inr (0, 21), .inr (0, 22), .inr (0, 23), .inr (0, 26), .inr (0, 27), .inr (0, 28), .inr (0, 31), .inr (0, 32), .inr (0, 33), .inr (0, 34), .inr (0, 36), .inr (0, 37), .inr (0, 38), .inr (0, 39), .inr (0, 40), .inr (0, 41), .inr (0, 43), .inr (0, 44), .inr (0, 45), .inr (0, 46), .inr (0, 47), .inr (0, 48), .inr (0, 50), .inr (0, 51), .inr (0, 52), .inr (0, 4), .inr (31, 0), .inr (31, 1), .inr (31, 2), .inr (31, 3), .inr (31, 8), .inr (31, 9), .inr (31, 10), .inr (31, 11), .inr (31, 12), .inr (31, 13), .inr (31, 14), .inr (31, 15), .inr (31, 16), .inr (31, 17), .inr (31, 18), .inr (31, 19), .inr (31, 20), .inr (31, 21), .inr (31, 22), .inr (31, 23), .inr (31, 24), .inr (31, 25), .inr (31, 26), .inr (31, 27), .inr (31, 28), .inr (0, 6)]
def spX14_book : q_P := fun a w K => ∃ (fr : Value) (th : Int32) (tr : Int32) (wh : Int32) (fa : Int32) (ta : Nat) (sz : Int32) (ix : Int32) (so : Int32) (pl : Int32) (nu : Int32) (wd : Int64) (td : Int32) (mk : Int32) (mo : Int32) (tx : Nat → Int32) (P : PT) (D : DT) (ea : Nat → Int32) (pa : Nat → Int32) (co : Nat → Int32) (S : ST) (Cc : CT) (V : VT) (ba : Nat → Int32) (B : BT) (R : RT) (L : LT) (G : GT) (sk : Int32) (sp : Int32) (x : Int32), w = (modelH (tk 0 5) th tr wh fa ta sz ix so pl nu wd td mk mo tx P D ea pa co S Cc V ba B R L G sk sp) ∧ a = [.ref 0, .int x] ∧ fr = .null ∧ ta ≤ 700 ∧ (if 0 ≤ x ∧ x ≤ nI ta then ∀ p0, pl = nI p0 → mBookL tx x.toNatClampNeg (fun Q' B' R' L' G' => K (.inl (some (.int (nI L'.2.2.2.2.2.2.2)))) (modelJ (.ref 58) (.ref 58) (0) (0) (-1) (0) (0) (x) (nI Q'.1) (Q'.2.1) (nI Q'.2.2.1) (Q'.2.2.2.1) (Q'.2.2.2.2) (0) mk mo tx (pZ P) (dN D) ea pa co (sZ S) (cZ Cc) (vZ V 9) ba B R L G sk sp (B') (R') (L') (G'))) (fun e p => ∀ (Q' : QT) (B' : BT) (R' : RT) (L' : LT) (G' : GT), K (.inl (some (.int (-1)))) (modelJ (.ref 31) (.ref 58) (0) (4) (nI p) (e) (0) (x) (nI Q'.1) (Q'.2.1) (nI Q'.2.2.1) (Q'.2.2.2.1) (Q'.2.2.2.2) td mk mo tx P D ea pa co S Cc V ba B R L G (e) (nI p) (B') (R') (L') (G'))) (x.toNatClampNeg + 1) (nxF tx x.toNatClampNeg (0, so, p0, nu, wd)) zBT zRT zLT zGT else K (.inl (some (.int (-1)))) (modelH (tk 0 5) (0) (2) (-1) fa ta sz ix so pl nu wd td mk mo tx P D ea pa co S Cc V ba B R L G sk sp))
abbrev csX14_book : q_S := (2, 14, 11, 3, 26, 608, fdX14_book, spX14_book)
theorem coX14_371 (l : Launch) : q_CO l RX14 371 csX12_init := ⟨yX12_init, cX12_init, none, 0, ⟨by decide +kernel, by decide +kernel, by decide +kernel⟩, q_G_i 23 (by decide +kernel) rfl, Or.inr (Or.inl ⟨rfl, rfl, rfl, rfl, Or.inr ⟨"BridgeStripModel", q_nest_i 1456 (by decide +kernel) rfl⟩, q_G_i 1457 (by decide +kernel) rfl, q_G_i 1458 (by decide +kernel) rfl, ctX12_init l⟩)⟩
theorem coX14_372 (l : Launch) : q_CO l RX14 372 csX14_readBook := ⟨yX14_readBook, cX14_readBook, none, 0, ⟨by decide +kernel, by decide +kernel, by decide +kernel⟩, q_G_i 17 (by decide +kernel) rfl, Or.inl ⟨by decide, rfl, rfl, q_G_i 1589 (by decide +kernel) rfl, q_G_i 1591 (by decide +kernel) rfl, q_G_s (n := 53) 52 (by decide +kernel), Or.inl ⟨q_G_i 1592 (by decide +kernel) rfl, ctX14_readBook l⟩⟩⟩
def EX14_book : q_E := (tX14_book, [(102, [0, 2])], 3, flX14, [(365, csX14_refused), (368, csX14_begins), (371, csX12_init), (204, csX14_next), (372, csX14_readBook), (375, csX14_wrong), (397, csX14_done)], [], [], [], [], [], 11, 26, 608, (some .int), [(39, 47, 50, 13)], [(220, 12)], 0, 0)
theorem okX14_book (l : Launch) : q_Eok l RX14 cX14_book EX14_book := ⟨tX14_book_ok, flX14_ok, List.forall_mem_cons.mpr ⟨(coX14_365 l), List.forall_mem_cons.mpr ⟨(coX14_368 l), List.forall_mem_cons.mpr ⟨(coX14_371 l), List.forall_mem_cons.mpr ⟨(coX14_204 l), List.forall_mem_cons.mpr ⟨(coX14_372 l), List.forall_mem_cons.mpr ⟨(coX14_375 l), List.forall_mem_cons.mpr ⟨(coX14_397 l), q_nil⟩⟩⟩⟩⟩⟩⟩, q_nil, q_nil, q_nil, q_nil, List.forall_mem_cons.mpr ⟨⟨_, _, _, rfl, rfl, q_G_i 1454 (by decide +kernel) rfl, q_G_i 1455 (by decide +kernel) rfl, q_G_i 23 (by decide +kernel) rfl⟩, q_nil⟩, (fun h => absurd h (by decide))⟩
set_option maxRecDepth 100000 in
set_option maxHeartbeats 4000000 in
theorem ctX14_book (l : Launch) : q_CT l yX14_book (.codeWith yX14_book cX14_book 3 (some .int) [(39, 47, 50, 13)]) 11 26 608 spX14_book := by
  refine q_ct_ofH EX14_book (by decide +kernel) (okX14_book l) rfl rfl rfl rfl rfl q_nil (fun ci h => by cases h) rfl (by decide) (q_G_i 1245 (by decide +kernel) rfl) ?_
  intro a w K h
  obtain ⟨fr, th, tr, wh, fa, ta, sz, ix, so, pl, nu, wd, td, mk, mo, tx, P, D, ea, pa, co, S, Cc, V, ba, B, R, L, G, sk, sp, x, rfl, rfl, -, ht, hK⟩ := h
  refine ⟨Nat.le_of_ble_eq_true rfl, fun C hC => hC _ _ _ _ _ _ ?_⟩
  refine And.intro (fun c => ?_) (fun c => And.intro (fun c2 => ?_) (fun c2 => ?_))
  · rw [if_neg (fun z => absurd c (Int32.not_lt.mpr z.1))] at hK
    exact ⟨_, _, _, _, _, _, _, _, _, _, _, _, _, _, _, _, _, _, _, _, _, _, _, _, rfl, rfl, hK⟩
  · have c9 := And.intro (Int32.not_lt.mp c) c2
    rw [if_pos c9] at hK
    obtain ⟨n, rfl, hn⟩ := inI (n := ta + 1) (x := x) (by omega) ⟨c9.1, by rw [← nI_1]; exact (by
      have h1 := c9.2
      rw [Int32.le_iff_toInt_le, nI_toInt (by omega)] at h1
      rw [Int32.lt_iff_toInt_lt, nI_1, nI_toInt (by omega)]
      omega)⟩
    rw [nI_clamp (by omega)] at hK
    obtain ⟨p0, rfl⟩ := nI_sur pl
    have hK := hK p0 rfl
    have hQ1 : (nxF tx n (0, so, p0, nu, wd)).1 ≤ n := nxF_le (Nat.zero_le _)
    refine ⟨_, _, _, _, _, _, _, _, _, _, _, _, _, _, _, _, _, _, _, _, _, _, _, _, rfl, rfl, ⟨by decide, by decide⟩, ⟨by decide, by decide⟩, rfl, rfl, _, _, _, _, _, _, _, _, _, _, _, _, _, _, n, (0, so, p0, nu, wd), _, _, rfl, rfl, by omega, Nat.zero_le _, (by first | exact Or.inl rfl | exact Or.inr rfl), _, _, _, _, _, _, _, _, _, _, _, _, _, _, n, nxF tx n (0, so, p0, nu, wd), _, _, _, _, zBT, zRT, zLT, zGT, rfl, rfl, by omega, hQ1, (by first | exact Or.inl rfl | exact Or.inr (Or.inl rfl) | exact Or.inr (Or.inr rfl)), zB_i, zR_i, Nat.zero_le _, zG_i, mBookL_mono (fun Q' B' R' L' G' hk => ?_) (fun e p hk => fun Q' B' R' L' G' => ?_) (n + 1) _ _ _ _ _ hQ1 zB_i zR_i (Nat.zero_le _) zG_i hK⟩
    · have loop : ∀ k i, i + k = 9 → C 102 [(0, .ref 0), (2, .int (nI i))] [] (modelJ (.ref 58) (.ref 58) (0) tr wh (0) (0) (nI n) (nI Q'.1) (Q'.2.1) (nI Q'.2.2.1) (Q'.2.2.2.1) (Q'.2.2.2.2) (0) mk mo tx (pZ P) (dN D) ea pa co (sZ S) (cZ Cc) (vZ V i) ba B R L G sk sp (B') (R') (L') (G')) 26 608 := by
        intro k
        induction k with
        | zero =>
          intro i hi
          have hi : i = 9 := hi
          subst hi
          exact hC _ _ _ _ _ _ (And.intro (fun _ => ⟨_, _, _, _, _, _, _, _, _, _, _, _, _, _, _, _, _, _, _, _, _, _, _, _, rfl, rfl, hk⟩) (fun z => absurd (show (9 : Int32) ≤ nI 9 by decide) z))
        | succ k ih =>
          intro i hi
          have hv : vp_in (nI i) 9 := vp_in_nI (by omega) (by omega)
          have hc : (nI i).toNatClampNeg = i := nI_clamp (by omega)
          have h9 := ih (i + 1) (by omega)
          have e : upd (zf 0 V.1 i) (nI i).toNatClampNeg 0 = zf 0 V.1 (i + 1) := by rw [hc, zf_s]
          unfold vZ at h9
          rw [← nI_1, ← e] at h9
          exact hC _ _ _ _ _ _ (And.intro (fun z => absurd z (nI_ge (b := 9) (by omega) (by omega))) (fun _ => ⟨hv, h9⟩))
      have h9 := loop 9 0 (by omega)
      unfold vZ at h9
      rw [zf_0] at h9
      exact h9
    · exact ⟨_, _, _, _, _, _, _, _, _, _, _, _, _, _, n, Q', _, _, _, _, rfl, rfl, hk Q' B' R' L' G'⟩
  · rw [if_neg (fun z => c2 z.2)] at hK
    exact ⟨_, _, _, _, _, _, _, _, _, _, _, _, _, _, _, _, _, _, _, _, _, _, _, _, rfl, rfl, hK⟩
