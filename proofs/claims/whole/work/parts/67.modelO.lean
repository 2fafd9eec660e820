
def tX12_init : List q_I := [(0, .aload_n 0, 1, 0, 0), (1, .invokespecial 3, 3, 0, 0), (4, .aload_n 0, 1, 0, 0), (5, .bipush 25, 2, 25, 0), (7, .newarray .long, 2, 0, 25), (9, .putfield 9, 3, 0, 0), (12, .aload_n 0, 1, 0, 0), (13, .bipush 25, 2, 25, 0), (15, .newarray .int, 2, 0, 25), (17, .putfield 15, 3, 0, 0), (20, .aload_n 0, 1, 0, 0), (21, .bipush 25, 2, 25, 0), (23, .newarray .int, 2, 0, 25), (25, .putfield 19, 3, 0, 0), (28, .aload_n 0, 1, 0, 0), (29, .iconst 4, 1, 4, 0), (30, .newarray .int, 2, 0, 4), (32, .putfield 22, 3, 0, 0), (35, .aload_n 0, 1, 0, 0), (36, .bipush 16, 2, 16, 0), (38, .newarray .int, 2, 0, 16), (40, .putfield 25, 3, 0, 0), (43, .aload_n 0, 1, 0, 0), (44, .bipush 16, 2, 16, 0), (46, .newarray .int, 2, 0, 16), (48, .putfield 28, 3, 0, 0), (51, .aload_n 0, 1, 0, 0), (52, .bipush 16, 2, 16, 0), (54, .newarray .int, 2, 0, 16), (56, .putfield 31, 3, 0, 0), (59, .aload_n 0, 1, 0, 0), (60, .bipush 16, 2, 16, 0), (62, .newarray .int, 2, 0, 16), (64, .putfield 34, 3, 0, 0), (67, .aload_n 0, 1, 0, 0), (68, .bipush 16, 2, 16, 0), (70, .newarray .int, 2, 0, 16), (72, .putfield 37, 3, 0, 0), (75, .aload_n 0, 1, 0, 0), (76, .bipush 48, 2, 48, 0), (78, .newarray .int, 2, 0, 48), (80, .putfield 40, 3, 0, 0), (83, .aload_n 0, 1, 0, 0), (84, .bipush 48, 2, 48, 0), (86, .newarray .int, 2, 0, 48), (88, .putfield 43, 3, 0, 0), (91, .aload_n 0, 1, 0, 0), (92, .bipush 24, 2, 24, 0), (94, .newarray .int, 2, 0, 24), (96, .putfield 46, 3, 0, 0), (99, .aload_n 0, 1, 0, 0), (100, .bipush 24, 2, 24, 0), (102, .newarray .int, 2, 0, 24), (104, .putfield 49, 3, 0, 0), (107, .aload_n 0, 1, 0, 0), (108, .bipush 24, 2, 24, 0), (110, .newarray .int, 2, 0, 24), (112, .putfield 52, 3, 0, 0), (115, .aload_n 0, 1, 0, 0), (116, .bipush 24, 2, 24, 0), (118, .newarray .int, 2, 0, 24), (120, .putfield 55, 3, 0, 0), (123, .aload_n 0, 1, 0, 0), (124, .bipush 24, 2, 24, 0), (126, .newarray .int, 2, 0, 24), (128, .putfield 58, 3, 0, 0), (131, .aload_n 0, 1, 0, 0), (132, .bipush 24, 2, 24, 0), (134, .newarray .int, 2, 0, 24), (136, .putfield 61, 3, 0, 0), (139, .aload_n 0, 1, 0, 0), (140, .bipush 24, 2, 24, 0), (142, .newarray .boolean, 2, 0, 24), (144, .putfield 64, 3, 0, 0), (147, .aload_n 0, 1, 0, 0), (148, .bipush 12, 2, 12, 0), (150, .newarray .int, 2, 0, 12), (152, .putfield 68, 3, 0, 0), (155, .aload_n 0, 1, 0, 0), (156, .bipush 12, 2, 12, 0), (158, .newarray .int, 2, 0, 12), (160, .putfield 71, 3, 0, 0), (163, .aload_n 0, 1, 0, 0), (164, .bipush 12, 2, 12, 0), (166, .newarray .int, 2, 0, 12), (168, .putfield 74, 3, 0, 0), (171, .aload_n 0, 1, 0, 0), (172, .bipush 12, 2, 12, 0), (174, .newarray .int, 2, 0, 12), (176, .putfield 77, 3, 0, 0), (179, .aload_n 0, 1, 0, 0), (180, .bipush 36, 2, 36, 0), (182, .newarray .int, 2, 0, 36), (184, .putfield 80, 3, 0, 0), (187, .aload_n 0, 1, 0, 0), (188, .bipush 36, 2, 36, 0), (190, .newarray .int, 2, 0, 36), (192, .putfield 83, 3, 0, 0), (195, .aload_n 0, 1, 0, 0), (196, .bipush 36, 2, 36, 0), (198, .newarray .int, 2, 0, 36), (200, .putfield 86, 3, 0, 0), (203, .return_, 1, 0, 0)]
theorem tX12_init_ok : (tX12_init.all (q_okI cX12_init)) = true := by decide +kernel

abbrev fdX12_init : List (Nat ⊕ (Nat × Nat)) := [.inl 0]
def spX12_init : q_P := fun a w K => w = [.inr (12, [.null, .null, .null, .null, .int 0, .int 0, .int 0, .int 0, .null, .null, .null, .null, .null, .null, .null, .null, .null, .null, .null, .null, .null, .null, .null, .null, .null, .null, .null, .null, .null])] ∧ a = [.ref 0] ∧ K (.inl none) (mbookW 0 zBT zRT zLT zGT)
abbrev csX12_init : q_S := (1, 97, 1, 1, 25, 579, fdX12_init, spX12_init)
def EX12_init : q_E := (tX12_init, [], 1, flX12, [], [], [], [], [], [], 1, 25, 579, none, [], [], 3, 13)
theorem okX12_init (l : Launch) : q_Eok l RX12 cX12_init EX12_init := ⟨tX12_init_ok, flX12_ok, q_nil, q_nil, q_nil, q_nil, q_nil, q_nil, fun _ => q_G_i 1459 (by decide +kernel) rfl⟩
set_option maxRecDepth 100000 in
set_option maxHeartbeats 4000000 in
theorem ctX12_init (l : Launch) : q_CT l yX12_init (.code yX12_init cX12_init 1 none) 1 25 579 spX12_init := by
  refine q_ct_of EX12_init (by decide +kernel) (okX12_init l) rfl rfl rfl rfl rfl q_nil (fun ci h => by cases h; exact ⟨rfl, rfl⟩) rfl ?_
  intro a w K h
  obtain ⟨rfl, rfl, hK⟩ := h
  refine ⟨Nat.le_of_ble_eq_true rfl, fun C hC => hC _ _ _ _ _ _ ?_⟩
  exact ⟨⟨rfl, by decide, by decide, by decide⟩, ⟨rfl, by decide, by decide, by decide⟩, ⟨rfl, by decide, by decide, by decide⟩, ⟨rfl, by decide, by decide, by decide⟩, ⟨rfl, by decide, by decide, by decide⟩, ⟨rfl, by decide, by decide, by decide⟩, ⟨rfl, by decide, by decide, by decide⟩, ⟨rfl, by decide, by decide, by decide⟩, ⟨rfl, by decide, by decide, by decide⟩, ⟨rfl, by decide, by decide, by decide⟩, ⟨rfl, by decide, by decide, by decide⟩, ⟨rfl, by decide, by decide, by decide⟩, ⟨rfl, by decide, by decide, by decide⟩, ⟨rfl, by decide, by decide, by decide⟩, ⟨rfl, by decide, by decide, by decide⟩, ⟨rfl, by decide, by decide, by decide⟩, ⟨rfl, by decide, by decide, by decide⟩, ⟨rfl, by decide, by decide, by decide⟩, ⟨rfl, by decide, by decide, by decide⟩, ⟨rfl, by decide, by decide, by decide⟩, ⟨rfl, by decide, by decide, by decide⟩, ⟨rfl, by decide, by decide, by decide⟩, ⟨rfl, by decide, by decide, by decide⟩, ⟨rfl, by decide, by decide, by decide⟩, ⟨rfl, by decide, by decide, by decide⟩, hK⟩
def tX14_wrong : List q_I := [(0, .aload_n 0, 1, 0, 0), (1, .aload_n 1, 1, 0, 0), (2, .getfield 129, 3, 0, 0), (5, .putfield 362, 3, 0, 0), (8, .aload_n 0, 1, 0, 0), (9, .iconst 4, 1, 4, 0), (10, .putfield 126, 3, 0, 0), (13, .aload_n 0, 1, 0, 0), (14, .aload_n 1, 1, 0, 0), (15, .getfield 135, 3, 0, 0), (18, .putfield 9, 3, 0, 0), (21, .iconst (-1), 1, (-1), 0), (22, .ireturn, 1, 0, 0)]
theorem tX14_wrong_ok : (tX14_wrong.all (q_okI cX14_wrong)) = true := by decide +kernel

abbrev fdX14_wrong : List (Nat ⊕ (Nat × Nat)) := [.inl 0, .inl 1]
def spX14_wrong : q_P := fun a w K => ∃ (th : Int32) (tr : Int32) (wh : Int32) (fa : Int32) (ta : Int32) (td : Int32) (pn : Int32) (mk : Int32) (mo : Int32) (sn : Int32) (bo : Int32) (jn : Int32) (qn : Int32) (cn : Int32) (n : Nat) (Q : QT) (bk : Value) (fr : Value) (sk : Int32) (sp : Int32), w = (modelP th tr wh fa ta td pn mk mo sn bo jn qn cn n Q bk fr sk sp) ∧ a = [.ref 0, .ref 1] ∧ K (.inl (some (.int (-1)))) (modelP th (4) (sp) (sk) ta td pn mk mo sn bo jn qn cn n Q bk fr sk sp)
abbrev csX14_wrong : q_S := (2, 14, 0, 2, 0, 0, fdX14_wrong, spX14_wrong)
def EX14_wrong : q_E := (tX14_wrong, [], 2, flX14, [], [], [], [], [], [], 0, 0, 0, (some .int), [], [], 0, 0)
theorem okX14_wrong (l : Launch) : q_Eok l RX14 cX14_wrong EX14_wrong := ⟨tX14_wrong_ok, flX14_ok, q_nil, q_nil, q_nil, q_nil, q_nil, q_nil, (fun h => absurd h (by decide))⟩
set_option maxRecDepth 100000 in
set_option maxHeartbeats 4000000 in
theorem ctX14_wrong (l : Launch) : q_CT l yX14_wrong (.code yX14_wrong cX14_wrong 2 (some .int)) 0 0 0 spX14_wrong := by
  refine q_ct_of EX14_wrong (by decide +kernel) (okX14_wrong l) rfl rfl rfl rfl rfl q_nil (fun ci h => by cases h) rfl ?_
  intro a w K h
  obtain ⟨th, tr, wh, fa, ta, td, pn, mk, mo, sn, bo, jn, qn, cn, n, Q, bk, fr, sk, sp, rfl, rfl, hK⟩ := h
  refine ⟨Nat.le_of_ble_eq_true rfl, fun C hC => hC _ _ _ _ _ _ ?_⟩
  exact hK
def modelH (fr : Value) (th : Int32) (tr : Int32) (wh : Int32) (fa : Int32) (ta : Nat) (sz : Int32) (ix : Int32) (so : Int32) (pl : Int32) (nu : Int32) (wd : Int64) (td : Int32) (mk : Int32) (mo : Int32) (tx : Nat → Int32) (P : PT) (D : DT) (ea : Nat → Int32) (pa : Nat → Int32) (co : Nat → Int32) (S : ST) (Cc : CT) (V : VT) (ba : Nat → Int32) (B : BT) (R : RT) (L : LT) (G : GT) (sk sp : Int32) : List q_C := modelW 0 fr (.ref 57) th tr wh fa ta sz ix so pl nu wd td mk mo tx P D ea pa co S Cc V ba B R L G ++ [.inr (13, [.null, .null, .null, .null, .null, .int 0, .int sk, .int sp])]
theorem mLawsL_mono {tx : Nat → Int32} {n : Nat} {kn : Int32} {B : BT} {k k2 : QT → LT → Prop} {kf kf2 : Int32 → Nat → Prop} (h : ∀ Q' L', k Q' L' → k2 Q' L') (hf : ∀ e p, kf e p → kf2 e p) : ∀ f (Q : QT) (L : LT), Q.1 ≤ n → L_n L ≤ 24 → mLawsL tx n kn B k kf f Q L → mLawsL tx n kn B k2 kf2 f Q L
  | 0, Q, L, _, _, hk => hf _ _ hk
  | f + 1, Q, L, hQ, hL, hk => by
    rw [mLawsL] at hk ⊢
    split
    rotate_left
    · next c => rw [if_neg c] at hk; exact hf _ _ hk
    next c =>
    rw [if_pos c] at hk
    refine mLawK_mono hQ hL (fun Q' L' hQ' _ _ hn2 _ hk => ?_) hf hk
    split
    · next c2 => rw [if_pos c2] at hk; exact mLawsL_mono h hf f _ _ (nxF_le hQ') hn2 hk
    · next c2 =>
      rw [if_neg c2] at hk
      split
      · next c3 => rw [if_pos c3] at hk; exact h _ _ hk
      · next c3 => rw [if_neg c3] at hk; exact hf _ _ hk
theorem nI_sur (x : Int32) : ∃ p, x = nI p := ⟨x.toBitVec.toNat, by
  apply Int32.toBitVec_inj.mp
  show x.toBitVec = (Int32.ofNat x.toBitVec.toNat).toBitVec
  simp⟩
def tX14_laws : List q_I := [(0, .aload_n 0, 1, 0, 0), (1, .iconst 0, 1, 0, 0), (2, .putfield 123, 3, 0, 0), (5, .aload_n 0, 1, 0, 0), (6, .getfield 379, 3, 0, 0), (9, .ifnonnull 9, 3, 0, 18), (12, .aload_n 0, 1, 0, 0), (13, .iconst 1, 1, 1, 0), (14, .invokevirtual 365, 3, 0, 0), (17, .ireturn, 1, 0, 0), (18, .iload_n 1, 1, 0, 0), (19, .ifCond .lt 11, 3, 0, 30), (22, .iload_n 1, 1, 0, 0), (23, .aload_n 0, 1, 0, 0), (24, .getfield 359, 3, 0, 0), (27, .if_icmp .le 9, 3, 0, 36), (30, .aload_n 0, 1, 0, 0), (31, .iconst 2, 1, 2, 0), (32, .invokevirtual 365, 3, 0, 0), (35, .ireturn, 1, 0, 0), (36, .aload_n 0, 1, 0, 0), (37, .iload_n 1, 1, 0, 0), (38, .invokevirtual 368, 3, 0, 0), (41, .aload_n 0, 1, 0, 0), (42, .aload_n 0, 1, 0, 0), (43, .getfield 379, 3, 0, 0), (46, .putfield 215, 3, 0, 0), (49, .aload_n 0, 1, 0, 0), (50, .getfield 379, 3, 0, 0), (53, .getfield 294, 3, 0, 0), (56, .istore_n 2, 1, 0, 0), (57, .aload_n 0, 1, 0, 0), (58, .invokevirtual 204, 3, 0, 0), (61, .aload_n 0, 1, 0, 0), (62, .invokevirtual 400, 3, 0, 0), (65, .goto 18, 3, 0, 83), (68, .astore_n 3, 1, 0, 0), (69, .aload_n 0, 1, 0, 0), (70, .getfield 379, 3, 0, 0), (73, .iload_n 2, 1, 0, 0), (74, .putfield 294, 3, 0, 0), (77, .aload_n 0, 1, 0, 0), (78, .aload_n 3, 1, 0, 0), (79, .invokevirtual 375, 3, 0, 0), (82, .ireturn, 1, 0, 0), (83, .aload_n 0, 1, 0, 0), (84, .aload_n 0, 1, 0, 0), (85, .getfield 379, 3, 0, 0), (88, .getfield 294, 3, 0, 0), (91, .invokevirtual 397, 3, 0, 0), (94, .ireturn, 1, 0, 0)]
theorem tX14_laws_ok : (tX14_laws.all (q_okI cX14_laws)) = true := by decide +kernel

abbrev fdX14_laws : List (Nat ⊕ (Nat × Nat)) := [.inl 0, .inr (0, 7), .inr (0, 17), .inr (0, 18), .inr (0, 19), .inr (0, 20), .inr (0, 21), .inr (0, 22), .inr (0, 23), .inr (0, 26), .inr (0, 27), .inr (0, 28), .inr (0, 31), .inr (0, 32), .inr (0, 33), .inr (0, 34), .inr (0, 36), .inr (0, 37), .inr (0, 38), .inr (0, 39), .inr (0, 40), .inr (0, 41), .inr (0, 43), .inr (0, 44), .inr (0, 45), .inr (0, 46), .inr (0, 47), .inr (0, 48), .inr (0, 50), .inr (0, 51), .inr (0, 52), .inr (0, 4), .inr (31, 0), .inr (31, 1), .inr (31, 2), .inr (31, 3), .inr (31, 8), .inr (31, 9), .inr (31, 10), .inr (31, 11), .inr (31, 12), .inr (31, 13), .inr (31, 14), .inr (31, 15), .inr (31, 16), .inr (31, 17), .inr (31, 18), .inr (31, 19), .inr (31, 20), .inr (31, 21), .inr (31, 22), .inr (31, 23), .inr (31, 24), .inr (31, 25), .inr (31, 26), .inr (31, 27), .inr (31, 28), .inr (0, 6)]
def spX14_laws : q_P := fun a w K => ∃ (fr : Value) (th : Int32) (tr : Int32) (wh : Int32) (fa : Int32) (ta : Nat) (sz : Int32) (ix : Int32) (so : Int32) (pl : Int32) (nu : Int32) (wd : Int64) (td : Int32) (mk : Int32) (mo : Int32) (tx : Nat → Int32) (P : PT) (D : DT) (ea : Nat → Int32) (pa : Nat → Int32) (co : Nat → Int32) (S : ST) (Cc : CT) (V : VT) (ba : Nat → Int32) (B : BT) (R : RT) (L : LT) (G : GT) (sk : Int32) (sp : Int32) (x : Int32), w = (modelH (tk 0 5) th tr wh fa ta sz ix so pl nu wd td mk mo tx P D ea pa co S Cc V ba B R L G sk sp) ∧ a = [.ref 0, .int x] ∧ fr = .null ∧ ta ≤ 700 ∧ B.2.2.2.2 ≤ 25 ∧ L_n L ≤ 24 ∧ (if 0 ≤ x ∧ x ≤ nI ta then ∀ p0, pl = nI p0 → mLawsL tx x.toNatClampNeg td B (fun Q' L' => K (.inl (some (.int (nI L'.2.2.2.2.2.2.2)))) (modelH (.ref 31) (0) (0) (-1) (0) (0) (x) (nI Q'.1) (Q'.2.1) (nI Q'.2.2.1) (Q'.2.2.2.1) (Q'.2.2.2.2) td mk mo tx P D ea pa co S Cc V ba B R (L') G sk sp)) (fun e p => ∀ (Q' : QT) (L' : LT), lPre L L' → K (.inl (some (.int (-1)))) (modelH (.ref 31) (0) (4) (nI p) (e) (0) (x) (nI Q'.1) (Q'.2.1) (nI Q'.2.2.1) (Q'.2.2.2.1) (Q'.2.2.2.2) td mk mo tx P D ea pa co S Cc V ba B R (lawsC L' (L_n L)) G (e) (nI p))) (x.toNatClampNeg + 1) (nxF tx x.toNatClampNeg (0, so, p0, nu, wd)) L else K (.inl (some (.int (-1)))) (modelH (tk 0 5) (0) (2) (-1) fa ta sz ix so pl nu wd td mk mo tx P D ea pa co S Cc V ba B R L G sk sp))
abbrev csX14_laws : q_S := (2, 14, 10, 4, 0, 0, fdX14_laws, spX14_laws)
theorem coX14_368 (l : Launch) : q_CO l RX14 368 csX14_begins := ⟨yX14_begins, cX14_begins, none, 1, ⟨by decide +kernel, by decide +kernel, by decide +kernel⟩, q_G_i 17 (by decide +kernel) rfl, Or.inl ⟨by decide, rfl, rfl, q_G_i 1450 (by decide +kernel) rfl, q_G_i 1452 (by decide +kernel) rfl, q_G_s (n := 53) 49 (by decide +kernel), Or.inl ⟨q_G_i 1453 (by decide +kernel) rfl, ctX14_begins l⟩⟩⟩
theorem coX14_400 (l : Launch) : q_CO l RX14 400 csX14_readLaws := ⟨yX14_readLaws, cX14_readLaws, none, 0, ⟨by decide +kernel, by decide +kernel, by decide +kernel⟩, q_G_i 17 (by decide +kernel) rfl, Or.inl ⟨by decide, rfl, rfl, q_G_i 1683 (by decide +kernel) rfl, q_G_i 1685 (by decide +kernel) rfl, q_G_s (n := 53) 66 (by decide +kernel), Or.inl ⟨q_G_i 1686 (by decide +kernel) rfl, ctX14_readLaws l⟩⟩⟩
theorem coX14_375 (l : Launch) : q_CO l RX14 375 csX14_wrong := ⟨yX14_wrong, cX14_wrong, (some .int), 1, ⟨by decide +kernel, by decide +kernel, by decide +kernel⟩, q_G_i 17 (by decide +kernel) rfl, Or.inl ⟨by decide, rfl, rfl, q_G_i 1671 (by decide +kernel) rfl, q_G_i 1673 (by decide +kernel) rfl, q_G_s (n := 53) 64 (by decide +kernel), Or.inl ⟨q_G_i 1674 (by decide +kernel) rfl, ctX14_wrong l⟩⟩⟩
def EX14_laws : q_E := (tX14_laws, [], 4, flX14, [(365, csX14_refused), (368, csX14_begins), (204, csX14_next), (400, csX14_readLaws), (375, csX14_wrong), (397, csX14_done)], [], [], [], [], [], 10, 0, 0, (some .int), [(57, 65, 68, 13)], [], 0, 0)
theorem okX14_laws (l : Launch) : q_Eok l RX14 cX14_laws EX14_laws := ⟨tX14_laws_ok, flX14_ok, List.forall_mem_cons.mpr ⟨(coX14_365 l), List.forall_mem_cons.mpr ⟨(coX14_368 l), List.forall_mem_cons.mpr ⟨(coX14_204 l), List.forall_mem_cons.mpr ⟨(coX14_400 l), List.forall_mem_cons.mpr ⟨(coX14_375 l), List.forall_mem_cons.mpr ⟨(coX14_397 l), q_nil⟩⟩⟩⟩⟩⟩, q_nil, q_nil, q_nil, q_nil, q_nil, (fun h => absurd h (by decide))⟩
set_option maxRecDepth 100000 in
set_option maxHeartbeats 4000000 in
theorem ctX14_laws (l : Launch) : q_CT l yX14_laws (.codeWith yX14_laws cX14_laws 4 (some .int) [(57, 65, 68, 13)]) 10 0 0 spX14_laws := by
  refine q_ct_ofH EX14_laws (by decide +kernel) (okX14_laws l) rfl rfl rfl rfl rfl q_nil (fun ci h => by cases h) rfl (by decide) (q_G_i 1245 (by decide +kernel) rfl) ?_
  intro a w K h
  obtain ⟨fr, th, tr, wh, fa, ta, sz, ix, so, pl, nu, wd, td, mk, mo, tx, P, D, ea, pa, co, S, Cc, V, ba, B, R, L, G, sk, sp, x, rfl, rfl, -, ht, hB, hL, hK⟩ := h
  refine ⟨Nat.le_of_ble_eq_true rfl, fun C hC => hC _ _ _ _ _ _ ?_⟩
  refine And.intro (fun c => ?_) (fun c => And.intro (fun c2 => ?_) (fun c2 => ?_))
  · rw [if_neg (fun z => absurd c (Int32.not_lt.mpr z.1))] at hK
    exact ⟨_, _, _, _, _, _, _, _, _, _, _, _, _, _, _, _, _, _, _, _, _, _, _, _, rfl, rfl, hK⟩
  · have c9 := And.intro (Int32.not_lt.mp c) c2
    rw [if_pos c9] at hK
    obtain ⟨n, rfl, hn⟩ := inI (n := ta + 1) (x := x) (by omega) ⟨c9.1, by rw [← nI_1]; exact (by
      have h1 := c9.2
      rw [Int32.le_iff_toInt_le, nI_toInt (by omega)] at h1
      rw [Int32.lt_iff_toInt_lt, nI_1, nI_toInt (by omega)]
      omega)⟩
    rw [nI_clamp (by omega)] at hK
    obtain ⟨p0, rfl⟩ := nI_sur pl
    have hK := hK p0 rfl
    have hQ1 : (nxF tx n (0, so, p0, nu, wd)).1 ≤ n := nxF_le (Nat.zero_le _)
    refine ⟨_, _, _, _, _, _, _, _, _, _, _, _, _, _, _, _, _, _, _, _, _, _, _, _, rfl, rfl, _, _, _, _, _, _, _, _, _, _, _, _, _, _, n, (0, so, p0, nu, wd), _, _, rfl, rfl, by omega, Nat.zero_le _, (by first | exact Or.inl rfl | exact Or.inr rfl), _, _, _, _, _, _, _, _, _, _, _, _, _, _, n, nxF tx n (0, so, p0, nu, wd), _, _, _, _, _, _, _, _, rfl, rfl, by omega, hQ1, (by first | exact Or.inl rfl | exact Or.inr (Or.inl rfl) | exact Or.inr (Or.inr rfl)), hB, hL, mLawsL_mono (fun Q' L' hk => ?_) (fun e p hk => fun Q' L' hl => ?_) (n + 1) _ _ hQ1 hL hK⟩
    · exact ⟨_, _, _, _, _, _, _, _, _, _, _, _, _, _, _, _, _, _, _, _, _, _, _, _, rfl, rfl, hk⟩
    · exact ⟨_, _, _, _, _, _, _, _, _, _, _, _, _, _, n, Q', _, _, _, _, rfl, rfl, hk Q' L' hl⟩
  · rw [if_neg (fun z => c2 z.2)] at hK
    exact ⟨_, _, _, _, _, _, _, _, _, _, _, _, _, _, _, _, _, _, _, _, _, _, _, _, rfl, rfl, hK⟩
