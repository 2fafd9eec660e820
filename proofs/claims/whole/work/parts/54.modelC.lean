theorem nI_sb {a b : Nat} (h : b ≤ a) (ha : a < 2 ^ 31) : nI a - nI b = nI (a - b) := by
  have e : nI a = nI (a - b) + nI b := by rw [nI_add, Nat.sub_add_cancel h]
  rw [e, Int32.add_sub_cancel]
theorem fstO_lt2 {P : Nat → Bool} : ∀ {n s i : Nat}, fstO P s n = some i → s ≤ i ∧ i < s + n
  | 0, s, i, h => by simp [fstO] at h
  | n + 1, s, i, h => by
    rw [fstO] at h
    split at h
    · cases h; omega
    · have := fstO_lt2 h; omega
def ldRes (K : q_K) (W0 W1 : (Nat → Int32) → List q_C) (i : Int32) (o : Option (Nat × (Nat → Int32))) : Prop := match o with
  | none => False
  | some (s, b) => if i ≤ nI s then K (.inl (some (.int (b (s - i.toNatClampNeg))))) (W1 b) else K (.inl (some (.int 0))) (W0 b)

def tX14_led : List q_I := [(0, .aload_n 0, 1, 0, 0), (1, .iconst 1, 1, 1, 0), (2, .putfield 123, 3, 0, 0), (5, .aload_n 0, 1, 0, 0), (6, .iload_n 1, 1, 0, 0), (7, .invokevirtual 417, 3, 0, 0), (10, .ifCond .eq 24, 3, 0, 34), (13, .aload_n 0, 1, 0, 0), (14, .iconst 0, 1, 0, 0), (15, .iload_n 2, 1, 0, 0), (16, .invokevirtual 407, 3, 0, 0), (19, .ifCond .eq 15, 3, 0, 34), (22, .iload_n 3, 1, 0, 0), (23, .invokestatic 411, 3, 0, 0), (26, .ifCond .eq 8, 3, 0, 34), (29, .iload 4, 2, 0, 0), (31, .ifCond .ge 5, 3, 0, 36), (34, .iconst 0, 1, 0, 0), (35, .ireturn, 1, 0, 0), (36, .aload_n 0, 1, 0, 0), (37, .iload_n 1, 1, 0, 0), (38, .iload_n 3, 1, 0, 0), (39, .invokevirtual 456, 3, 0, 0), (42, .aload_n 0, 1, 0, 0), (43, .getfield 53, 3, 0, 0), (46, .iload_n 2, 1, 0, 0), (47, .iaload, 1, 0, 0), (48, .ldc_w 321, 3, 0, 0), (51, .if_icmp .ne 5, 3, 0, 56), (54, .iconst 0, 1, 0, 0), (55, .ireturn, 1, 0, 0), (56, .iconst 0, 1, 0, 0), (57, .istore 5, 2, 0, 0), (59, .iload_n 2, 1, 0, 0), (60, .istore 6, 2, 0, 0), (62, .aload_n 0, 1, 0, 0), (63, .getfield 120, 3, 0, 0), (66, .iconst 0, 1, 0, 0), (67, .iload 6, 2, 0, 0), (69, .iastore, 1, 0, 0), (70, .iload 6, 2, 0, 0), (72, .aload_n 0, 1, 0, 0), (73, .getfield 24, 3, 0, 0), (76, .iload_n 1, 1, 0, 0), (77, .iaload, 1, 0, 0), (78, .if_icmp .eq 74, 3, 0, 152), (81, .iload 5, 2, 0, 0), (83, .bipush 7, 2, 7, 0), (85, .if_icmp .ge 67, 3, 0, 152), (88, .aload_n 0, 1, 0, 0), (89, .iload_n 1, 1, 0, 0), (90, .iload 6, 2, 0, 0), (92, .invokevirtual 501, 3, 0, 0), (95, .istore 7, 2, 0, 0), (97, .aload_n 0, 1, 0, 0), (98, .getfield 379, 3, 0, 0), (101, .getfield 258, 3, 0, 0), (104, .iload 7, 2, 0, 0), (106, .iaload, 1, 0, 0), (107, .iload 6, 2, 0, 0), (109, .if_icmp .ne 16, 3, 0, 125), (112, .aload_n 0, 1, 0, 0), (113, .getfield 379, 3, 0, 0), (116, .getfield 264, 3, 0, 0), (119, .iload 7, 2, 0, 0), (121, .iaload, 1, 0, 0), (122, .goto 13, 3, 0, 135), (125, .aload_n 0, 1, 0, 0), (126, .getfield 379, 3, 0, 0), (129, .getfield 258, 3, 0, 0), (132, .iload 7, 2, 0, 0), (134, .iaload, 1, 0, 0), (135, .istore 6, 2, 0, 0), (137, .iinc 5 1, 3, 1, 0), (140, .aload_n 0, 1, 0, 0), (141, .getfield 120, 3, 0, 0), (144, .iload 5, 2, 0, 0), (146, .iload 6, 2, 0, 0), (148, .iastore, 1, 0, 0), (149, .goto (-79), 3, 0, 70), (152, .iload 4, 2, 0, 0), (154, .iload 5, 2, 0, 0), (156, .if_icmp .le 5, 3, 0, 161), (159, .iconst 0, 1, 0, 0), (160, .ireturn, 1, 0, 0), (161, .aload_n 0, 1, 0, 0), (162, .iconst 0, 1, 0, 0), (163, .putfield 123, 3, 0, 0), (166, .aload_n 0, 1, 0, 0), (167, .getfield 120, 3, 0, 0), (170, .iload 5, 2, 0, 0), (172, .iload 4, 2, 0, 0), (174, .isub, 1, 0, 0), (175, .iaload, 1, 0, 0), (176, .ireturn, 1, 0, 0)]
theorem tX14_led_ok : (tX14_led.all (q_okI cX14_led)) = true := by decide +kernel

abbrev fdX14_led : List (Nat ⊕ (Nat × Nat)) := [.inl 0, .inr (0, 7), .inr (0, 17), .inr (0, 18), .inr (0, 19), .inr (0, 20), .inr (0, 21), .inr (0, 22), .inr (0, 23), .inr (0, 26), .inr (0, 27), .inr (0, 28), .inr (0, 31), .inr (0, 32), .inr (0, 33), .inr (0, 34), .inr (0, 36), .inr (0, 37), .inr (0, 38), .inr (0, 39), .inr (0, 40), .inr (0, 41), .inr (0, 43), .inr (0, 44), .inr (0, 45), .inr (0, 46), .inr (0, 47), .inr (0, 48), .inr (0, 50), .inr (0, 51), .inr (0, 52), .inr (0, 4), .inr (31, 0), .inr (31, 1), .inr (31, 2), .inr (31, 3), .inr (31, 8), .inr (31, 9), .inr (31, 10), .inr (31, 11), .inr (31, 12), .inr (31, 13), .inr (31, 14), .inr (31, 15), .inr (31, 16), .inr (31, 17), .inr (31, 18), .inr (31, 19), .inr (31, 20), .inr (31, 21), .inr (31, 22), .inr (31, 23), .inr (31, 24), .inr (31, 25), .inr (31, 26), .inr (31, 27), .inr (31, 28)]
def spX14_led : q_P := fun a w K => ∃ (th : Int32) (tr : Int32) (wh : Int32) (fa : Int32) (ta : Nat) (sz : Int32) (ix : Int32) (so : Int32) (pl : Int32) (nu : Int32) (wd : Int64) (td : Int32) (mk : Int32) (mo : Int32) (tx : Nat → Int32) (P : PT) (D : DT) (ea : Nat → Int32) (pa : Nat → Int32) (co : Nat → Int32) (S : ST) (Cc : CT) (V : VT) (ba : Nat → Int32) (B : BT) (R : RT) (L : LT) (G : GT) (n : Nat) (p x d i : Int32), w = (modelW 0 (tk 0 5) (tk 0 6) th tr wh fa ta sz ix so pl nu wd td mk mo tx P D ea pa co S Cc V ba B R L G) ∧ a = [.ref 0, .int p, .int x, .int d, .int i] ∧ pOk P ∧ pPl P n ∧ rOk R ∧ rEnd R n ∧ L_n L ≤ 24 ∧ B.1 0 = nI n ∧ n ≤ 8 ∧ (if trvR B.1 P p x d = 0 ∧ 0 ≤ i then (if (goF P L R p.toNatClampNeg n (P.1 p.toNatClampNeg).toNatClampNeg mk mo d ea pa).1 x.toNatClampNeg = 1000000 then K (.inl (some (.int 0))) (modelW 0 (tk 0 5) (tk 0 6) (1) tr wh fa ta sz ix so pl nu wd td mk mo tx P D ((goF P L R p.toNatClampNeg n (P.1 p.toNatClampNeg).toNatClampNeg mk mo d ea pa).1) ((goF P L R p.toNatClampNeg n (P.1 p.toNatClampNeg).toNatClampNeg mk mo d ea pa).2) co S Cc V ba B R L G) else ldRes K (fun b => (modelW 0 (tk 0 5) (tk 0 6) (1) tr wh fa ta sz ix so pl nu wd td mk mo tx P D ((goF P L R p.toNatClampNeg n (P.1 p.toNatClampNeg).toNatClampNeg mk mo d ea pa).1) ((goF P L R p.toNatClampNeg n (P.1 p.toNatClampNeg).toNatClampNeg mk mo d ea pa).2) co S Cc V (b) B R L G)) (fun b => (modelW 0 (tk 0 5) (tk 0 6) (0) tr wh fa ta sz ix so pl nu wd td mk mo tx P D ((goF P L R p.toNatClampNeg n (P.1 p.toNatClampNeg).toNatClampNeg mk mo d ea pa).1) ((goF P L R p.toNatClampNeg n (P.1 p.toNatClampNeg).toNatClampNeg mk mo d ea pa).2) co S Cc V (b) B R L G)) i (ldW2 P L R p.toNatClampNeg mk mo (goF P L R p.toNatClampNeg n (P.1 p.toNatClampNeg).toNatClampNeg mk mo d ea pa).1 (P.1 p.toNatClampNeg).toNatClampNeg 7 0 x.toNatClampNeg (upd ba 0 x))) else K (.inl (some (.int 0))) (modelW 0 (tk 0 5) (tk 0 6) (1) tr wh fa ta sz ix so pl nu wd td mk mo tx P D ea pa co S Cc V ba B R L G))
abbrev csX14_led : q_S := (5, 14, 6, 8, 0, 0, fdX14_led, spX14_led)
theorem coX14_501 (l : Launch) : q_CO l RX14 501 csX14_roadTo := ⟨yX14_roadTo, cX14_roadTo, (some .int), 2, ⟨by decide +kernel, by decide +kernel, by decide +kernel⟩, q_G_i 17 (by decide +kernel) rfl, Or.inl ⟨by decide, rfl, rfl, q_G_i 1925 (by decide +kernel) rfl, q_G_i 1927 (by decide +kernel) rfl, q_G_s (n := 53) 92 (by decide +kernel), Or.inl ⟨q_G_i 1928 (by decide +kernel) rfl, ctX14_roadTo l⟩⟩⟩
def EX14_led : q_E := (tX14_led, [(70, [0, 1, 4, 5, 6]), (135, [0, 1, 4, 5, 7])], 8, flX14, [(417, csX14_isPerson), (407, csX14_isOf), (411, csX14_isDay), (456, csX14_goes), (501, csX14_roadTo)], [], [(321, 1000000)], [], [], [], 6, 0, 0, (some .int), [], [], 0, 0)
theorem okX14_led (l : Launch) : q_Eok l RX14 cX14_led EX14_led := ⟨tX14_led_ok, flX14_ok, List.forall_mem_cons.mpr ⟨(coX14_417 l), List.forall_mem_cons.mpr ⟨(coX14_407 l), List.forall_mem_cons.mpr ⟨(coX14_411 l), List.forall_mem_cons.mpr ⟨(coX14_456 l), List.forall_mem_cons.mpr ⟨(coX14_501 l), q_nil⟩⟩⟩⟩⟩, q_nil, List.forall_mem_cons.mpr ⟨q_G_i 1658 (by decide +kernel) rfl, q_nil⟩, q_nil, q_nil, q_nil, (fun h => absurd h (by decide))⟩
set_option maxRecDepth 100000 in
set_option maxHeartbeats 4000000 in
theorem ctX14_led (l : Launch) : q_CT l yX14_led (.code yX14_led cX14_led 8 (some .int)) 6 0 0 spX14_led := by
  refine q_ct_of EX14_led (by decide +kernel) (okX14_led l) rfl rfl rfl rfl rfl q_nil (fun ci h => by cases h) rfl ?_
  intro a w K h
  obtain ⟨th, tr, wh, fa, ta, sz, ix, so, pl, nu, wd, td, mk, mo, tx, P, D, ea, pa, co, S, Cc, V, ba, B, R, L, G, n, p, x, d, i, rfl, rfl, ho, hpl, hro, hre, hL, hB, hn, hK⟩ := h
  have hrn := hro.1
  refine ⟨Nat.le_of_ble_eq_true rfl, fun C hC => hC _ _ _ _ _ _ ?_⟩
  refine ⟨_, _, _, _, _, _, _, _, _, _, _, _, _, _, _, _, _, _, _, _, _, _, _, p, rfl, rfl, And.intro (fun c => ?_) (fun c => ?_)⟩
  · have c := of_decide_eq_false (bI_0.mp c)
    rw [if_neg (fun z => by rw [show trvR B.1 P p x d = 1 from if_neg c] at z; exact absurd z.1 (by decide))] at hK
    exact hK
  have c := of_decide_eq_true (bI_n0.mp c)
  refine ⟨_, _, _, _, _, _, _, _, _, _, _, _, _, _, _, _, _, _, _, _, _, _, _, _, 0, x, rfl, rfl, by decide, And.intro (fun c2 => ?_) (fun c2 => ?_)⟩
  · rw [if_neg (fun z => by rw [show trvR B.1 P p x d = 1 by unfold trvR; rw [if_pos c, if_neg (by rw [bI_0.mp c2]; decide)]] at z; exact absurd z.1 (by decide))] at hK
    exact hK
  have e : trvR B.1 P p x d = if dayB d then 0 else 2 := by unfold trvR; rw [if_pos c, if_pos (bI_n0.mp c2)]
  refine ⟨d, rfl, rfl, And.intro (fun c3 => ?_) (fun c3 => ?_)⟩
  · rw [if_neg (by rw [bI_0.mp c3]; decide)] at e
    rw [if_neg (fun z => by rw [e] at z; exact absurd z.1 (by decide))] at hK
    exact hK
  rw [if_pos (bI_n0.mp c3)] at e
  refine And.intro (fun c4 => ?_) (fun c4 => ?_)
  rotate_left
  · rw [if_neg (fun z => c4 z.2)] at hK
    exact hK
  rw [if_pos ⟨e, c4⟩] at hK
  obtain ⟨p, rfl, hp⟩ := inI (by have := ho.1; omega) c
  obtain ⟨x, rfl, hx⟩ := toldI hB hn (bI_n0.mp c2)
  obtain ⟨y, hy, hyn⟩ := hpl p hp
  obtain ⟨p1, p2, p3, p4, p5⟩ := pOk_ix ho hp
  have hcp : (nI p).toNatClampNeg = p := p2
  have hcx : (nI x).toNatClampNeg = x := nI_clamp (by omega)
  have hcy : (nI y).toNatClampNeg = y := nI_clamp (by omega)
  have hv : vp_in (nI x) 8 := vp_in_nI (by omega) (by omega)
  rw [hcp, hy, hcy, hcx] at hK
  refine ⟨_, _, _, _, _, _, _, _, _, _, _, _, _, _, _, _, _, _, _, _, _, _, _, _, _, _, _, _, n, p, y, d, rfl, rfl, ho, hro, hre, hL, hB, hn, hp, hy, by omega, hv, ?_⟩
  generalize goF P L R p n y mk mo d ea pa = gg at hK ⊢
  refine And.intro (fun c5 => ?_) (fun c5 => ?_)
  rotate_left
  · rw [hcx] at c5
    rw [if_pos c5] at hK
    exact hK
  rw [hcx] at c5
  rw [if_neg c5] at hK
  have hi0 : (0 : Int32).toInt ≤ i.toInt := Int32.le_iff_toInt_le.mp c4
  rw [show (0 : Int32).toInt = 0 by decide] at hi0
  have fin : ∀ s b, s ≤ 7 → (if i ≤ nI s then K (.inl (some (.int (b (s - i.toNatClampNeg))))) (modelW 0 (tk 0 5) (tk 0 6) (0) tr wh fa ta sz ix so pl nu wd td mk mo tx P D (gg.1) (gg.2) co S Cc V (b) B R L G) else K (.inl (some (.int 0))) (modelW 0 (tk 0 5) (tk 0 6) (1) tr wh fa ta sz ix so pl nu wd td mk mo tx P D (gg.1) (gg.2) co S Cc V (b) B R L G)) → (i ≤ nI s → vp_in (nI s - i) 8 ∧ K (.inl (some (.int (b (nI s - i).toNatClampNeg)))) (modelW 0 (tk 0 5) (tk 0 6) (0) tr wh fa ta sz ix so pl nu wd td mk mo tx P D (gg.1) (gg.2) co S Cc V (b) B R L G)) ∧ (¬ i ≤ nI s → K (.inl (some (.int 0))) (modelW 0 (tk 0 5) (tk 0 6) (1) tr wh fa ta sz ix so pl nu wd td mk mo tx P D (gg.1) (gg.2) co S Cc V (b) B R L G)) := by
    intro s b hs hK
    refine ⟨fun c6 => ?_, fun c6 => by rw [if_neg c6] at hK; exact hK⟩
    rw [if_pos c6] at hK
    have h1 := Int32.le_iff_toInt_le.mp c6
    rw [nI_toInt (by omega)] at h1
    obtain ⟨j, rfl, hj31⟩ : ∃ j, i = nI j ∧ j < 2 ^ 31 := ⟨i.toInt.toNat, Int32.toInt_inj.mp (by rw [nI_toInt (by omega)]; omega), by omega⟩
    have hj : j ≤ s := by rw [nI_toInt hj31] at h1; omega
    have hcj : (nI j).toNatClampNeg = j := nI_clamp (by omega)
    rw [hcj] at hK
    rw [nI_sb hj (by omega), nI_clamp (by omega)]
    exact ⟨vp_in_nI (by omega) (by omega), hK⟩
  have loop : ∀ k s z b, s + k = 7 → z < 8 → ldRes K (fun b => (modelW 0 (tk 0 5) (tk 0 6) (1) tr wh fa ta sz ix so pl nu wd td mk mo tx P D (gg.1) (gg.2) co S Cc V (b) B R L G)) (fun b => (modelW 0 (tk 0 5) (tk 0 6) (0) tr wh fa ta sz ix so pl nu wd td mk mo tx P D (gg.1) (gg.2) co S Cc V (b) B R L G)) i (ldW2 P L R p mk mo gg.1 y k s z b) → C 70 [(0, .ref 0), (1, .int (nI p)), (4, .int i), (5, .int (nI s)), (6, .int (nI z))] [] (modelW 0 (tk 0 5) (tk 0 6) (1) tr wh fa ta sz ix so pl nu wd td mk mo tx P D (gg.1) (gg.2) co S Cc V (b) B R L G) 0 0 := by
    intro k
    induction k with
    | zero =>
      intro s z b hs hz hK
      obtain ⟨f1, f2⟩ := fin s b (by omega) hK
      refine hC _ _ _ _ _ _ ⟨p1, And.intro (fun _ => And.intro f1 f2) (fun _ => And.intro (fun _ => And.intro f1 f2) (fun c6 => absurd (nI_le (a := 7) (by omega) (by omega)) c6))⟩
    | succ k ih =>
      intro s z b hs hz hK
      rw [ldW2] at hK
      have hcz : (nI z).toNatClampNeg = z := nI_clamp (by omega)
      refine hC _ _ _ _ _ _ ⟨p1, And.intro (fun c6 => ?_) (fun c6 => And.intro (fun c7 => absurd c7 (nI_ge (b := 7) (by omega) (by omega))) (fun _ => ⟨_, _, _, _, _, _, _, _, _, _, _, _, _, _, _, _, _, _, _, _, _, _, _, _, _, _, _, _, n, p, z, rfl, rfl, ho, hro, hre, hL, hn, hp, hz, ?_⟩))⟩
      · rw [hcp, hy] at c6
        have e9 : z = y := by
          rcases Nat.decEq z y with q | q
          · exact absurd c6 (nI_ne q (by omega) (by omega))
          · exact q
        rw [if_pos e9] at hK
        obtain ⟨f1, f2⟩ := fin s b (by omega) hK
        exact And.intro f1 f2
      · rw [hcp, hy] at c6
        rw [if_neg (fun q => c6 (by rw [q]))] at hK
        rcases hf : fstO (rtP P L R p mk mo gg.1 (nI z)) 0 R.2.2.2.2.2.2.2 with _ | r
        · rw [hf] at hK
          exact hK.elim
        · rw [hf] at hK
          have hr := (fstO_lt2 hf).2
          have hvr : vp_in (oI (some r)) 16 := vp_in_nI (by omega) (by omega)
          have hcr : (oI (some r)).toNatClampNeg = r := nI_clamp (by omega)
          obtain ⟨a, b2, ha, hb, han, hbn⟩ := hre r (by omega)
          have fin2 : ∀ u, u = (if R.1 r = nI z then R.2.1 r else R.1 r) → C 135 [(0, .ref 0), (1, .int (nI p)), (4, .int i), (5, .int (nI s)), (7, .int (oI (some r)))] [.int u] (modelW 0 (tk 0 5) (tk 0 6) (1) tr wh fa ta sz ix so pl nu wd td mk mo tx P D (gg.1) (gg.2) co S Cc V (b) B R L G) 0 0 := by
            intro u hu
            have hu2 : ∃ w, u = nI w ∧ w < 8 := by
              rw [hu]; split
              · exact ⟨b2, hb, by omega⟩
              · exact ⟨a, ha, by omega⟩
            obtain ⟨w, rfl, hw⟩ := hu2
            have hU : ldU P L R p mk mo gg.1 z r = w := by unfold ldU; rw [← hu]; exact nI_clamp (by omega)
            have hK : ldRes K (fun b => (modelW 0 (tk 0 5) (tk 0 6) (1) tr wh fa ta sz ix so pl nu wd td mk mo tx P D (gg.1) (gg.2) co S Cc V (b) B R L G)) (fun b => (modelW 0 (tk 0 5) (tk 0 6) (0) tr wh fa ta sz ix so pl nu wd td mk mo tx P D (gg.1) (gg.2) co S Cc V (b) B R L G)) i (ldW2 P L R p mk mo gg.1 y k (s + 1) (ldU P L R p mk mo gg.1 z r) (upd b (s + 1) (nI (ldU P L R p mk mo gg.1 z r)))) := hK
            rw [hU] at hK
            have h9 := ih (s + 1) w _ (by omega) hw hK
            rw [← nI_1] at h9
            refine hC _ _ _ _ _ _ ⟨by rw [nI_1]; exact vp_in_nI (by omega) (by omega), ?_⟩
            rw [show (nI s + 1).toNatClampNeg = s + 1 by rw [nI_1]; exact nI_clamp (by omega)]
            exact h9
          refine ⟨hvr, And.intro (fun c7 => ⟨hvr, ?_⟩) (fun c7 => ⟨hvr, ?_⟩)⟩
          · rw [hcr] at c7 ⊢
            exact fin2 _ (by rw [if_neg c7])
          · rw [hcr] at c7 ⊢
            exact fin2 _ (by rw [if_pos c7])
  have h9 := loop 7 0 x _ (by omega) (by omega) hK
  exact ⟨vp_in_nI (n := 0) (by decide) (by decide), h9⟩
