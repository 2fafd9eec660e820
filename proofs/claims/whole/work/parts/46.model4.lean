
def tX14_end : List q_I := [(0, .iload_n 2, 1, 0, 0), (1, .ifCond .eq 15, 3, 0, 16), (4, .aload_n 0, 1, 0, 0), (5, .getfield 379, 3, 0, 0), (8, .getfield 264, 3, 0, 0), (11, .iload_n 1, 1, 0, 0), (12, .iaload, 1, 0, 0), (13, .goto 12, 3, 0, 25), (16, .aload_n 0, 1, 0, 0), (17, .getfield 379, 3, 0, 0), (20, .getfield 258, 3, 0, 0), (23, .iload_n 1, 1, 0, 0), (24, .iaload, 1, 0, 0), (25, .ireturn, 1, 0, 0)]
theorem tX14_end_ok : (tX14_end.all (q_okI cX14_end)) = true := by decide +kernel

abbrev fdX14_end : List (Nat ⊕ (Nat × Nat)) := [.inl 0, .inr (0, 4), .inr (1, 0), .inr (1, 1), .inr (1, 2), .inr (1, 3), .inr (1, 8), .inr (1, 9), .inr (1, 10), .inr (1, 11), .inr (1, 12), .inr (1, 13), .inr (1, 14), .inr (1, 15), .inr (1, 16), .inr (1, 17), .inr (1, 18), .inr (1, 19), .inr (1, 20), .inr (1, 21), .inr (1, 22), .inr (1, 23), .inr (1, 24), .inr (1, 25), .inr (1, 26), .inr (1, 27), .inr (1, 28)]
def spX14_end : q_P := fun a w K => ∃ (th : Int32) (tr : Int32) (wh : Int32) (fa : Int32) (ta : Int32) (sz : Int32) (ix : Int32) (so : Int32) (pl : Int32) (nu : Int32) (wd : Int64) (td : Int32) (pn : Int32) (mk : Int32) (mo : Int32) (sn : Int32) (bo : Int32) (jn : Int32) (qn : Int32) (cn : Int32) (B : BT) (R : RT) (L : LT) (G : GT) (r : Nat) (b : Bool), w = (modelQ th tr wh fa ta sz ix so pl nu wd td pn mk mo sn bo jn qn cn B R L G) ∧ a = [.ref 0, .int (nI r), .int (bI b)] ∧ r < 16 ∧ K (.inl (some (.int (if b then R.2.1 r else R.1 r)))) (modelQ th tr wh fa ta sz ix so pl nu wd td pn mk mo sn bo jn qn cn B R L G)
abbrev csX14_end : q_S := (3, 14, 0, 3, 0, 0, fdX14_end, spX14_end)
def EX14_end : q_E := (tX14_end, [], 3, flX14, [], [], [], [], [], [], 0, 0, 0, (some .int), [], [], 0, 0)
theorem okX14_end (l : Launch) : q_Eok l RX14 cX14_end EX14_end := ⟨tX14_end_ok, flX14_ok, q_nil, q_nil, q_nil, q_nil, q_nil, q_nil, (fun h => absurd h (by decide))⟩
set_option maxRecDepth 100000 in
set_option maxHeartbeats 4000000 in
theorem ctX14_end (l : Launch) : q_CT l yX14_end (.code yX14_end cX14_end 3 (some .int)) 0 0 0 spX14_end := by
  refine q_ct_of EX14_end (by decide +kernel) (okX14_end l) rfl rfl rfl rfl rfl q_nil (fun ci h => by cases h) rfl ?_
  intro a w K h
  obtain ⟨th, tr, wh, fa, ta, sz, ix, so, pl, nu, wd, td, pn, mk, mo, sn, bo, jn, qn, cn, B, R, L, G, r, b, rfl, rfl, hr, hK⟩ := h
  have hv : vp_in (nI r) 16 := vp_in_nI hr (by omega)
  have hc : (nI r).toNatClampNeg = r := nI_clamp (by omega)
  refine ⟨Nat.le_of_ble_eq_true rfl, fun C hC => hC _ _ _ _ _ _ ?_⟩
  cases b with
  | false =>
    refine And.intro (fun _ => ⟨hv, ?_⟩) (fun c => absurd rfl c)
    rw [hc]; exact hK
  | true =>
    refine And.intro (fun c => absurd c (by decide)) (fun _ => ⟨hv, ?_⟩)
    rw [hc]; exact hK
def cmF (op : Int32 → Bool) (dy : Int32) : Nat → Int32 → Int32
  | 0, _ => 1000000
  | n + 1, d => if op d then d + dy else cmF op dy n (d + 1)
def mcome (P : PT) (L : LT) (R : RT) (p r : Nat) (mk mo d : Int32) : Int32 := cmF (fun d => opnW R L (metB P L R p d) mk mo d r) (R.2.2.1 r) (1000 - d.toInt).toNat d
def tX14_comesBy : List q_I := [(0, .iload_n 3, 1, 0, 0), (1, .istore 4, 2, 0, 0), (3, .iload 4, 2, 0, 0), (5, .sipush 999, 3, 999, 0), (8, .if_icmp .gt 33, 3, 0, 41), (11, .aload_n 0, 1, 0, 0), (12, .iload_n 1, 1, 0, 0), (13, .iload_n 2, 1, 0, 0), (14, .iload 4, 2, 0, 0), (16, .invokevirtual 441, 3, 0, 0), (19, .ifCond .eq 16, 3, 0, 35), (22, .iload 4, 2, 0, 0), (24, .aload_n 0, 1, 0, 0), (25, .getfield 379, 3, 0, 0), (28, .getfield 273, 3, 0, 0), (31, .iload_n 2, 1, 0, 0), (32, .iaload, 1, 0, 0), (33, .iadd, 1, 0, 0), (34, .ireturn, 1, 0, 0), (35, .iinc 4 1, 3, 1, 0), (38, .goto (-35), 3, 0, 3), (41, .ldc_w 321, 3, 0, 0), (44, .ireturn, 1, 0, 0)]
theorem tX14_comesBy_ok : (tX14_comesBy.all (q_okI cX14_comesBy)) = true := by decide +kernel

abbrev fdX14_comesBy : List (Nat ⊕ (Nat × Nat)) := [.inl 0, .inr (0, 7), .inr (0, 17), .inr (0, 18), .inr (0, 19), .inr (0, 20), .inr (0, 21), .inr (0, 22), .inr (0, 23), .inr (0, 26), .inr (0, 27), .inr (0, 28), .inr (0, 31), .inr (0, 32), .inr (0, 33), .inr (0, 34), .inr (0, 36), .inr (0, 37), .inr (0, 38), .inr (0, 39), .inr (0, 40), .inr (0, 41), .inr (0, 43), .inr (0, 44), .inr (0, 45), .inr (0, 46), .inr (0, 47), .inr (0, 48), .inr (0, 50), .inr (0, 51), .inr (0, 52), .inr (0, 4), .inr (31, 0), .inr (31, 1), .inr (31, 2), .inr (31, 3), .inr (31, 8), .inr (31, 9), .inr (31, 10), .inr (31, 11), .inr (31, 12), .inr (31, 13), .inr (31, 14), .inr (31, 15), .inr (31, 16), .inr (31, 17), .inr (31, 18), .inr (31, 19), .inr (31, 20), .inr (31, 21), .inr (31, 22), .inr (31, 23), .inr (31, 24), .inr (31, 25), .inr (31, 26), .inr (31, 27), .inr (31, 28)]
def spX14_comesBy : q_P := fun a w K => ∃ (th : Int32) (tr : Int32) (wh : Int32) (fa : Int32) (ta : Nat) (sz : Int32) (ix : Int32) (so : Int32) (pl : Int32) (nu : Int32) (wd : Int64) (td : Int32) (mk : Int32) (mo : Int32) (tx : Nat → Int32) (P : PT) (D : DT) (ea : Nat → Int32) (pa : Nat → Int32) (co : Nat → Int32) (S : ST) (Cc : CT) (V : VT) (ba : Nat → Int32) (B : BT) (R : RT) (L : LT) (G : GT) (p r : Nat) (d : Int32), w = (modelW 0 (tk 0 5) (tk 0 6) th tr wh fa ta sz ix so pl nu wd td mk mo tx P D ea pa co S Cc V ba B R L G) ∧ a = [.ref 0, .int (nI p), .int (nI r), .int d] ∧ pOk P ∧ rOk R ∧ L_n L ≤ 24 ∧ p < P.2.2.2.2.2.2 ∧ r < R.2.2.2.2.2.2.2 ∧ K (.inl (some (.int (mcome P L R p r mk mo d)))) (modelW 0 (tk 0 5) (tk 0 6) th tr wh fa ta sz ix so pl nu wd td mk mo tx P D ea pa co S Cc V ba B R L G)
abbrev csX14_comesBy : q_S := (4, 14, 4, 5, 0, 0, fdX14_comesBy, spX14_comesBy)
def EX14_comesBy : q_E := (tX14_comesBy, [(3, [0, 1, 2, 4])], 5, flX14, [(441, csX14_isOpen)], [], [(321, 1000000)], [], [], [], 4, 0, 0, (some .int), [], [], 0, 0)
theorem okX14_comesBy (l : Launch) : q_Eok l RX14 cX14_comesBy EX14_comesBy := ⟨tX14_comesBy_ok, flX14_ok, List.forall_mem_cons.mpr ⟨(coX14_441 l), q_nil⟩, q_nil, List.forall_mem_cons.mpr ⟨q_G_i 1658 (by decide +kernel) rfl, q_nil⟩, q_nil, q_nil, q_nil, (fun h => absurd h (by decide))⟩
set_option maxRecDepth 100000 in
set_option maxHeartbeats 4000000 in
theorem ctX14_comesBy (l : Launch) : q_CT l yX14_comesBy (.code yX14_comesBy cX14_comesBy 5 (some .int)) 4 0 0 spX14_comesBy := by
  refine q_ct_of EX14_comesBy (by decide +kernel) (okX14_comesBy l) rfl rfl rfl rfl rfl q_nil (fun ci h => by cases h) rfl ?_
  intro a w K h
  obtain ⟨th, tr, wh, fa, ta, sz, ix, so, pl, nu, wd, td, mk, mo, tx, P, D, ea, pa, co, S, Cc, V, ba, B, R, L, G, p, r, d, rfl, rfl, ho, hro, hL, hp, hr, hK⟩ := h
  have hr16 := hro.1
  have hv : vp_in (nI r) 16 := vp_in_nI (by omega) (by omega)
  have hc : (nI r).toNatClampNeg = r := nI_clamp (by omega)
  have h999 : (999 : Int32).toInt = 999 := by decide
  refine ⟨Nat.le_of_ble_eq_true rfl, fun C hC => ?_⟩
  have loop : ∀ n (d : Int32), n = (1000 - d.toInt).toNat → K (.inl (some (.int (cmF (fun d => opnW R L (metB P L R p d) mk mo d r) (R.2.2.1 r) n d)))) (modelW 0 (tk 0 5) (tk 0 6) th tr wh fa ta sz ix so pl nu wd td mk mo tx P D ea pa co S Cc V ba B R L G) → C 3 [(0, .ref 0), (1, .int (nI p)), (2, .int (nI r)), (4, .int d)] [] (modelW 0 (tk 0 5) (tk 0 6) th tr wh fa ta sz ix so pl nu wd td mk mo tx P D ea pa co S Cc V ba B R L G) 0 0 := by
    intro n
    induction n with
    | zero =>
      intro d hd hK
      exact hC _ _ _ _ _ _ (And.intro (fun c => hK) (fun c => absurd (by rw [Int32.lt_iff_toInt_lt, h999]; omega) c))
    | succ n ih =>
      intro d hd hK
      have hlo := Int32.le_toInt d
      have e1 : (d + 1).toInt = d.toInt + 1 := by
        rw [Int32.toInt_add, show (1 : Int32).toInt = 1 by decide]
        apply Int.bmod_eq_of_le <;> omega
      refine hC _ _ _ _ _ _ (And.intro (fun c => absurd c (by rw [Int32.lt_iff_toInt_lt, h999]; omega)) (fun c => ⟨_, _, _, _, _, _, _, _, _, _, _, _, _, _, _, _, _, _, _, _, _, _, _, _, _, _, _, _, p, r, d, rfl, rfl, ho, hro, hL, hp, hr, And.intro (fun c2 => ?_) (fun c2 => ⟨hv, ?_⟩)⟩))
      · rw [cmF, if_neg (by rw [bI_0.mp c2]; decide)] at hK
        exact ih (d + 1) (by omega) hK
      · rw [cmF, if_pos (bI_n0.mp c2)] at hK
        rw [hc]; exact hK
  exact hC _ _ _ _ _ _ (loop _ d rfl hK)
def goE (x : Nat) (d : Int32) (f : Nat → Int32) (i : Nat) : Nat → Int32 := fun j => if j < i then (if j = x then d else 1000000) else f j
theorem goE_0 (x : Nat) (d : Int32) (f : Nat → Int32) : goE x d f 0 = f := by funext j; simp [goE]
theorem goE_s (x : Nat) (d : Int32) (f : Nat → Int32) (i : Nat) : upd (goE x d f i) i (if i = x then d else 1000000) = goE x d f (i + 1) := by
  funext j
  simp only [upd, goE]
  by_cases h : j = i
  · simp [h]
  · by_cases h2 : j < i
    · simp [h, h2, Nat.lt_succ_of_lt h2]
    · simp [h, h2, show ¬ j < i + 1 by omega]
theorem goE_8 {x : Nat} (hx : x < 8) (d : Int32) (f : Nat → Int32) : goE x d f 8 = upd (zf 1000000 f 8) x d := by
  funext j
  simp only [upd, goE, zf]
  by_cases h : j = x
  · subst h; simp [hx]
  · simp [h]
def selM (pa ea : Nat → Int32) : Nat → Int32
  | 0 => -1
  | i + 1 => if pa i = 0 ∧ ¬ ea i = 1000000 ∧ (selM pa ea i = -1 ∨ ea i < ea (selM pa ea i).toNatClampNeg) then nI i else selM pa ea i
theorem selM_lt (pa ea : Nat → Int32) : ∀ n, selM pa ea n = -1 ∨ ∃ s, selM pa ea n = nI s ∧ s < n
  | 0 => Or.inl rfl
  | n + 1 => by
    rw [selM]
    split
    · exact Or.inr ⟨n, rfl, by omega⟩
    · rcases selM_lt pa ea n with h | ⟨s, h, hs⟩
      · exact Or.inl h
      · exact Or.inr ⟨s, h, by omega⟩
def relS (cm : Int32 → Int32) (u v : Int32) (s : Nat) (ea : Nat → Int32) : Nat → Int32 := if u = nI s then upd ea v.toNatClampNeg (mnI (ea v.toNatClampNeg) (cm (ea s))) else ea
def goOne (P : PT) (L : LT) (R : RT) (p : Nat) (mk mo : Int32) (s : Nat) (ea : Nat → Int32) (r : Nat) : Nat → Int32 := relS (mcome P L R p r mk mo) (R.2.1 r) (R.1 r) s (relS (mcome P L R p r mk mo) (R.1 r) (R.2.1 r) s ea)
def goK (P : PT) (L : LT) (R : RT) (p n : Nat) (mk mo : Int32) : Nat → (Nat → Int32) × (Nat → Int32) → (Nat → Int32) × (Nat → Int32)
  | 0, e => e
  | k + 1, e => if selM e.2 e.1 n = -1 then e else goK P L R p n mk mo k (foldF (goOne P L R p mk mo (selM e.2 e.1 n).toNatClampNeg) 0 R.2.2.2.2.2.2.2 e.1, upd e.2 (selM e.2 e.1 n).toNatClampNeg 1)
def goF (P : PT) (L : LT) (R : RT) (p n x : Nat) (mk mo d : Int32) (ea pa : Nat → Int32) : (Nat → Int32) × (Nat → Int32) := goK P L R p n mk mo n (upd (zf 1000000 ea 8) x d, zf 0 pa 8)
def tX14_goes : List q_I := [(0, .iconst 0, 1, 0, 0), (1, .istore_n 3, 1, 0, 0), (2, .iload_n 3, 1, 0, 0), (3, .bipush 8, 2, 8, 0), (5, .if_icmp .ge 39, 3, 0, 44), (8, .aload_n 0, 1, 0, 0), (9, .getfield 53, 3, 0, 0), (12, .iload_n 3, 1, 0, 0), (13, .iload_n 3, 1, 0, 0), (14, .aload_n 0, 1, 0, 0), (15, .getfield 24, 3, 0, 0), (18, .iload_n 1, 1, 0, 0), (19, .iaload, 1, 0, 0), (20, .if_icmp .ne 7, 3, 0, 27), (23, .iload_n 2, 1, 0, 0), (24, .goto 6, 3, 0, 30), (27, .ldc_w 321, 3, 0, 0), (30, .iastore, 1, 0, 0), (31, .aload_n 0, 1, 0, 0), (32, .getfield 56, 3, 0, 0), (35, .iload_n 3, 1, 0, 0), (36, .iconst 0, 1, 0, 0), (37, .bastore, 1, 0, 0), (38, .iinc 3 1, 3, 1, 0), (41, .goto (-39), 3, 0, 2), (44, .iconst 0, 1, 0, 0), (45, .istore_n 3, 1, 0, 0), (46, .iload_n 3, 1, 0, 0), (47, .aload_n 0, 1, 0, 0), (48, .getfield 379, 3, 0, 0), (51, .getfield 246, 3, 0, 0), (54, .iconst 0, 1, 0, 0), (55, .iaload, 1, 0, 0), (56, .if_icmp .ge 210, 3, 0, 266), (59, .iconst (-1), 1, (-1), 0), (60, .istore 4, 2, 0, 0), (62, .iconst 0, 1, 0, 0), (63, .istore 5, 2, 0, 0), (65, .iload 5, 2, 0, 0), (67, .aload_n 0, 1, 0, 0), (68, .getfield 379, 3, 0, 0), (71, .getfield 246, 3, 0, 0), (74, .iconst 0, 1, 0, 0), (75, .iaload, 1, 0, 0), (76, .if_icmp .ge 59, 3, 0, 135), (79, .aload_n 0, 1, 0, 0), (80, .getfield 56, 3, 0, 0), (83, .iload 5, 2, 0, 0), (85, .baload, 1, 0, 0), (86, .ifCond .ne 43, 3, 0, 129), (89, .aload_n 0, 1, 0, 0), (90, .getfield 53, 3, 0, 0), (93, .iload 5, 2, 0, 0), (95, .iaload, 1, 0, 0), (96, .ldc_w 321, 3, 0, 0), (99, .if_icmp .eq 30, 3, 0, 129), (102, .iload 4, 2, 0, 0), (104, .iconst (-1), 1, (-1), 0), (105, .if_icmp .eq 20, 3, 0, 125), (108, .aload_n 0, 1, 0, 0), (109, .getfield 53, 3, 0, 0), (112, .iload 5, 2, 0, 0), (114, .iaload, 1, 0, 0), (115, .aload_n 0, 1, 0, 0), (116, .getfield 53, 3, 0, 0), (119, .iload 4, 2, 0, 0), (121, .iaload, 1, 0, 0), (122, .if_icmp .ge 7, 3, 0, 129), (125, .iload 5, 2, 0, 0), (127, .istore 4, 2, 0, 0), (129, .iinc 5 1, 3, 1, 0), (132, .goto (-67), 3, 0, 65), (135, .iload 4, 2, 0, 0), (137, .iconst (-1), 1, (-1), 0), (138, .if_icmp .ne 4, 3, 0, 142), (141, .return_, 1, 0, 0), (142, .aload_n 0, 1, 0, 0), (143, .getfield 56, 3, 0, 0), (146, .iload 4, 2, 0, 0), (148, .iconst 1, 1, 1, 0), (149, .bastore, 1, 0, 0), (150, .iconst 0, 1, 0, 0), (151, .istore 5, 2, 0, 0), (153, .iload 5, 2, 0, 0), (155, .aload_n 0, 1, 0, 0), (156, .getfield 379, 3, 0, 0), (159, .getfield 255, 3, 0, 0), (162, .if_icmp .ge 98, 3, 0, 260), (165, .iconst 0, 1, 0, 0), (166, .istore 6, 2, 0, 0), (168, .iload 6, 2, 0, 0), (170, .iconst 2, 1, 2, 0), (171, .if_icmp .ge 83, 3, 0, 254), (174, .aload_n 0, 1, 0, 0), (175, .iload 5, 2, 0, 0), (177, .iload 6, 2, 0, 0), (179, .iconst 1, 1, 1, 0), (180, .if_icmp .ne 7, 3, 0, 187), (183, .iconst 1, 1, 1, 0), (184, .goto 4, 3, 0, 188), (187, .iconst 0, 1, 0, 0), (188, .invokevirtual 444, 3, 0, 0), (191, .iload 4, 2, 0, 0), (193, .if_icmp .eq 6, 3, 0, 199), (196, .goto 52, 3, 0, 248), (199, .aload_n 0, 1, 0, 0), (200, .iload 5, 2, 0, 0), (202, .iload 6, 2, 0, 0), (204, .ifCond .ne 7, 3, 0, 211), (207, .iconst 1, 1, 1, 0), (208, .goto 4, 3, 0, 212), (211, .iconst 0, 1, 0, 0), (212, .invokevirtual 444, 3, 0, 0), (215, .istore 7, 2, 0, 0), (217, .aload_n 0, 1, 0, 0), (218, .getfield 53, 3, 0, 0), (221, .iload 7, 2, 0, 0), (223, .aload_n 0, 1, 0, 0), (224, .getfield 53, 3, 0, 0), (227, .iload 7, 2, 0, 0), (229, .iaload, 1, 0, 0), (230, .aload_n 0, 1, 0, 0), (231, .iload_n 1, 1, 0, 0), (232, .iload 5, 2, 0, 0), (234, .aload_n 0, 1, 0, 0), (235, .getfield 53, 3, 0, 0), (238, .iload 4, 2, 0, 0), (240, .iaload, 1, 0, 0), (241, .invokevirtual 448, 3, 0, 0), (244, .invokestatic 451, 3, 0, 0), (247, .iastore, 1, 0, 0), (248, .iinc 6 1, 3, 1, 0), (251, .goto (-83), 3, 0, 168), (254, .iinc 5 1, 3, 1, 0), (257, .goto (-104), 3, 0, 153), (260, .iinc 3 1, 3, 1, 0), (263, .goto (-217), 3, 0, 46), (266, .return_, 1, 0, 0)]
theorem tX14_goes_ok : (tX14_goes.all (q_okI cX14_goes)) = true := by decide +kernel

abbrev fdX14_goes : List (Nat ⊕ (Nat × Nat)) := [.inl 0, .inr (0, 7), .inr (0, 17), .inr (0, 18), .inr (0, 19), .inr (0, 20), .inr (0, 21), .inr (0, 22), .inr (0, 23), .inr (0, 26), .inr (0, 27), .inr (0, 28), .inr (0, 31), .inr (0, 32), .inr (0, 33), .inr (0, 34), .inr (0, 36), .inr (0, 37), .inr (0, 38), .inr (0, 39), .inr (0, 40), .inr (0, 41), .inr (0, 43), .inr (0, 44), .inr (0, 45), .inr (0, 46), .inr (0, 47), .inr (0, 48), .inr (0, 50), .inr (0, 51), .inr (0, 52), .inr (0, 4), .inr (31, 0), .inr (31, 1), .inr (31, 2), .inr (31, 3), .inr (31, 8), .inr (31, 9), .inr (31, 10), .inr (31, 11), .inr (31, 12), .inr (31, 13), .inr (31, 14), .inr (31, 15), .inr (31, 16), .inr (31, 17), .inr (31, 18), .inr (31, 19), .inr (31, 20), .inr (31, 21), .inr (31, 22), .inr (31, 23), .inr (31, 24), .inr (31, 25), .inr (31, 26), .inr (31, 27), .inr (31, 28)]
def spX14_goes : q_P := fun a w K => ∃ (th : Int32) (tr : Int32) (wh : Int32) (fa : Int32) (ta : Nat) (sz : Int32) (ix : Int32) (so : Int32) (pl : Int32) (nu : Int32) (wd : Int64) (td : Int32) (mk : Int32) (mo : Int32) (tx : Nat → Int32) (P : PT) (D : DT) (ea : Nat → Int32) (pa : Nat → Int32) (co : Nat → Int32) (S : ST) (Cc : CT) (V : VT) (ba : Nat → Int32) (B : BT) (R : RT) (L : LT) (G : GT) (n p x : Nat) (d : Int32), w = (modelW 0 (tk 0 5) (tk 0 6) th tr wh fa ta sz ix so pl nu wd td mk mo tx P D ea pa co S Cc V ba B R L G) ∧ a = [.ref 0, .int (nI p), .int d] ∧ pOk P ∧ rOk R ∧ rEnd R n ∧ L_n L ≤ 24 ∧ B.1 0 = nI n ∧ n ≤ 8 ∧ p < P.2.2.2.2.2.2 ∧ P.1 p = nI x ∧ x < 8 ∧ K (.inl none) (modelW 0 (tk 0 5) (tk 0 6) th tr wh fa ta sz ix so pl nu wd td mk mo tx P D ((goF P L R p n x mk mo d ea pa).1) ((goF P L R p n x mk mo d ea pa).2) co S Cc V ba B R L G)
abbrev csX14_goes : q_S := (3, 14, 5, 8, 0, 0, fdX14_goes, spX14_goes)
theorem coX14_444 (l : Launch) : q_CO l RX14 444 csX14_end := ⟨yX14_end, cX14_end, (some .int), 2, ⟨by decide +kernel, by decide +kernel, by decide +kernel⟩, q_G_i 17 (by decide +kernel) rfl, Or.inl ⟨by decide, rfl, rfl, q_G_i 1790 (by decide +kernel) rfl, q_G_i 1792 (by decide +kernel) rfl, q_G_s (n := 53) 79 (by decide +kernel), Or.inl ⟨q_G_i 1793 (by decide +kernel) rfl, ctX14_end l⟩⟩⟩
theorem coX14_448 (l : Launch) : q_CO l RX14 448 csX14_comesBy := ⟨yX14_comesBy, cX14_comesBy, (some .int), 3, ⟨by decide +kernel, by decide +kernel, by decide +kernel⟩, q_G_i 17 (by decide +kernel) rfl, Or.inl ⟨by decide, rfl, rfl, q_G_i 1794 (by decide +kernel) rfl, q_G_i 1796 (by decide +kernel) rfl, q_G_s (n := 53) 80 (by decide +kernel), Or.inl ⟨q_G_i 1797 (by decide +kernel) rfl, ctX14_comesBy l⟩⟩⟩
def EX14_goes : q_E := (tX14_goes, [(2, [0, 1, 2, 3]), (46, [0, 1, 3]), (65, [0, 1, 3, 4, 5]), (153, [0, 1, 3, 4, 5]), (168, [0, 1, 3, 4, 5, 6])], 8, flX14, [(444, csX14_end), (448, csX14_comesBy)], [], [(321, 1000000)], [], [], [(451, 2)], 5, 0, 0, none, [], [], 0, 0)
theorem okX14_goes (l : Launch) : q_Eok l RX14 cX14_goes EX14_goes := ⟨tX14_goes_ok, flX14_ok, List.forall_mem_cons.mpr ⟨(coX14_444 l), List.forall_mem_cons.mpr ⟨(coX14_448 l), q_nil⟩⟩, q_nil, List.forall_mem_cons.mpr ⟨q_G_i 1658 (by decide +kernel) rfl, q_nil⟩, q_nil, List.forall_mem_cons.mpr ⟨Or.inr (Or.inr ⟨rfl, q_G_i 1798 (by decide +kernel) rfl⟩), q_nil⟩, q_nil, (fun h => absurd h (by decide))⟩
set_option maxRecDepth 100000 in
set_option maxHeartbeats 4000000 in
theorem ctX14_goes (l : Launch) : q_CT l yX14_goes (.code yX14_goes cX14_goes 8 none) 5 0 0 spX14_goes := by
  refine q_ct_of EX14_goes (by decide +kernel) (okX14_goes l) rfl rfl rfl rfl rfl q_nil (fun ci h => by cases h) rfl ?_
  intro a w K h
  obtain ⟨th, tr, wh, fa, ta, sz, ix, so, pl, nu, wd, td, mk, mo, tx, P, D, ea, pa, co, S, Cc, V, ba, B, R, L, G, n, p, x, d, rfl, rfl, ho, hro, hre, hL, hB, hn, hp, hx, hx8, hK⟩ := h
  obtain ⟨p1, p2, p3, p4, p5⟩ := pOk_ix ho hp
  have hrn := hro.1
  have h0 : vp_in (0 : Int32) 4 := vp_in_nI (n := 0) (by decide) (by decide)
  refine ⟨Nat.le_of_ble_eq_true rfl, fun C hC => ?_⟩
  have outer : ∀ k t e q, t + k = n → K (.inl none) (modelW 0 (tk 0 5) (tk 0 6) th tr wh fa ta sz ix so pl nu wd td mk mo tx P D ((goK P L R p n mk mo k (e, q)).1) ((goK P L R p n mk mo k (e, q)).2) co S Cc V ba B R L G) → C 46 [(0, .ref 0), (1, .int (nI p)), (3, .int (nI t))] [] (modelW 0 (tk 0 5) (tk 0 6) th tr wh fa ta sz ix so pl nu wd td mk mo tx P D (e) (q) co S Cc V ba B R L G) 0 0 := by
    intro k
    induction k with
    | zero =>
      intro t e q ht hK
      exact hC _ _ _ _ _ _ ⟨h0, And.intro (fun c => hK) (fun c => absurd (show B.1 0 ≤ nI t by rw [hB]; exact nI_le (by omega) (by omega)) c)⟩
    | succ k ih =>
      intro t e q ht hK
      have sel : ∀ m i, i + m = n → C 65 [(0, .ref 0), (1, .int (nI p)), (3, .int (nI t)), (4, .int (selM q e i)), (5, .int (nI i))] [] (modelW 0 (tk 0 5) (tk 0 6) th tr wh fa ta sz ix so pl nu wd td mk mo tx P D (e) (q) co S Cc V ba B R L G) 0 0 := by
        intro m
        induction m with
        | zero =>
          intro i hi
          have hi : i = n := hi
          subst hi
          refine hC _ _ _ _ _ _ ⟨h0, And.intro (fun c => And.intro (fun c2 => ?_) (fun c2 => ?_)) (fun c => absurd (show B.1 0 ≤ nI i by rw [hB]; exact nI_le (by omega) (by omega)) c)⟩
          · rw [goK, if_neg c2] at hK
            obtain ⟨s, hs, hsn⟩ := (selM_lt q e i).resolve_left c2
            have hsc : (nI s).toNatClampNeg = s := nI_clamp (by omega)
            rw [hs] at hK
            rw [hsc] at hK
            rw [hs]
            refine ⟨vp_in_nI (by omega) (by omega), ?_⟩
            have inner : ∀ k2 j e2, j + k2 = R.2.2.2.2.2.2.2 → K (.inl none) (modelW 0 (tk 0 5) (tk 0 6) th tr wh fa ta sz ix so pl nu wd td mk mo tx P D ((goK P L R p i mk mo k (foldF (goOne P L R p mk mo s) j k2 e2, upd q s 1)).1) ((goK P L R p i mk mo k (foldF (goOne P L R p mk mo s) j k2 e2, upd q s 1)).2) co S Cc V ba B R L G) → C 153 [(0, .ref 0), (1, .int (nI p)), (3, .int (nI t)), (4, .int (nI s)), (5, .int (nI j))] [] (modelW 0 (tk 0 5) (tk 0 6) th tr wh fa ta sz ix so pl nu wd td mk mo tx P D (e2) (upd q s 1) co S Cc V ba B R L G) 0 0 := by
              intro k2
              induction k2 with
              | zero =>
                intro j e2 hj hK
                have h9 := ih (t + 1) e2 (upd q s 1) (by omega) hK
                rw [← nI_1] at h9
                exact hC _ _ _ _ _ _ (And.intro (fun c3 => h9) (fun c3 => absurd (nI_le (by omega) (by omega)) c3))
              | succ k2 ih2 =>
                intro j e2 hj hK
                have hrj : j < R.2.2.2.2.2.2.2 := by omega
                have hj16 : j < 16 := by omega
                have hcj : (nI j).toNatClampNeg = j := nI_clamp (by omega)
                obtain ⟨a, b, ha, hb, han, hbn⟩ := hre j hrj
                have va : vp_in (R.1 j) 8 := by rw [ha]; exact vp_in_nI (by omega) (by omega)
                have vb : vp_in (R.2.1 j) 8 := by rw [hb]; exact vp_in_nI (by omega) (by omega)
                have vs : vp_in (nI s) 8 := vp_in_nI (by omega) (by omega)
                rw [foldF] at hK
                have two : ∀ e3, K (.inl none) (modelW 0 (tk 0 5) (tk 0 6) th tr wh fa ta sz ix so pl nu wd td mk mo tx P D ((goK P L R p i mk mo k (foldF (goOne P L R p mk mo s) (j + 1) k2 e3, upd q s 1)).1) ((goK P L R p i mk mo k (foldF (goOne P L R p mk mo s) (j + 1) k2 e3, upd q s 1)).2) co S Cc V ba B R L G) → C 168 [(0, .ref 0), (1, .int (nI p)), (3, .int (nI t)), (4, .int (nI s)), (5, .int (nI j)), (6, .int 2)] [] (modelW 0 (tk 0 5) (tk 0 6) th tr wh fa ta sz ix so pl nu wd td mk mo tx P D (e3) (upd q s 1) co S Cc V ba B R L G) 0 0 := by
                  intro e3 hK
                  have h9 := ih2 (j + 1) e3 (by omega) hK
                  rw [← nI_1] at h9
                  exact hC _ _ _ _ _ _ (And.intro (fun _ => h9) (fun c => absurd (show (2 : Int32) ≤ 2 by decide) c))
                have one : ∀ e3, K (.inl none) (modelW 0 (tk 0 5) (tk 0 6) th tr wh fa ta sz ix so pl nu wd td mk mo tx P D ((goK P L R p i mk mo k (foldF (goOne P L R p mk mo s) (j + 1) k2 (relS (mcome P L R p j mk mo) (R.2.1 j) (R.1 j) s e3), upd q s 1)).1) ((goK P L R p i mk mo k (foldF (goOne P L R p mk mo s) (j + 1) k2 (relS (mcome P L R p j mk mo) (R.2.1 j) (R.1 j) s e3), upd q s 1)).2) co S Cc V ba B R L G) → C 168 [(0, .ref 0), (1, .int (nI p)), (3, .int (nI t)), (4, .int (nI s)), (5, .int (nI j)), (6, .int 1)] [] (modelW 0 (tk 0 5) (tk 0 6) th tr wh fa ta sz ix so pl nu wd td mk mo tx P D (e3) (upd q s 1) co S Cc V ba B R L G) 0 0 := by
                  intro e3 hK
                  refine hC _ _ _ _ _ _ (And.intro (fun c => absurd c (by decide)) (fun _ => And.intro (fun c => absurd rfl c) (fun _ => ⟨_, _, _, _, _, _, _, _, _, _, _, _, _, _, _, _, _, _, _, _, _, _, _, _, j, true, rfl, rfl, hj16, And.intro (fun c3 => ?_) (fun c3 => ?_)⟩)))
                  · have c3 : R.2.1 j = nI s := c3
                    rw [relS, if_pos c3] at hK
                    refine And.intro (fun c => ?_) (fun c => absurd c (by decide))
                    refine ⟨_, _, _, _, _, _, _, _, _, _, _, _, _, _, _, _, _, _, _, _, _, _, _, _, j, false, rfl, rfl, hj16, va, vs, _, _, _, _, _, _, _, _, _, _, _, _, _, _, _, _, _, _, _, _, _, _, _, _, _, _, _, _, p, j, _, rfl, rfl, ho, hro, hL, hp, hrj, va, ?_⟩
                    rw [hsc]
                    exact two _ hK
                  · have c3 : ¬ R.2.1 j = nI s := c3
                    rw [relS, if_neg c3] at hK
                    exact two _ hK
                have zer : C 168 [(0, .ref 0), (1, .int (nI p)), (3, .int (nI t)), (4, .int (nI s)), (5, .int (nI j)), (6, .int 0)] [] (modelW 0 (tk 0 5) (tk 0 6) th tr wh fa ta sz ix so pl nu wd td mk mo tx P D (e2) (upd q s 1) co S Cc V ba B R L G) 0 0 := by
                  refine hC _ _ _ _ _ _ (And.intro (fun c => absurd c (by decide)) (fun _ => And.intro (fun _ => ⟨_, _, _, _, _, _, _, _, _, _, _, _, _, _, _, _, _, _, _, _, _, _, _, _, j, false, rfl, rfl, hj16, And.intro (fun c3 => ?_) (fun c3 => ?_)⟩) (fun c => absurd c (by decide))))
                  · have c3 : R.1 j = nI s := c3
                    rw [goOne, show relS (mcome P L R p j mk mo) (R.1 j) (R.2.1 j) s e2 = _ from if_pos c3] at hK
                    refine And.intro (fun c => absurd rfl c) (fun _ => ?_)
                    refine ⟨_, _, _, _, _, _, _, _, _, _, _, _, _, _, _, _, _, _, _, _, _, _, _, _, j, true, rfl, rfl, hj16, vb, vs, _, _, _, _, _, _, _, _, _, _, _, _, _, _, _, _, _, _, _, _, _, _, _, _, _, _, _, _, p, j, _, rfl, rfl, ho, hro, hL, hp, hrj, vb, ?_⟩
                    rw [hsc]
                    exact one _ hK
                  · have c3 : ¬ R.1 j = nI s := c3
                    rw [goOne, show relS (mcome P L R p j mk mo) (R.1 j) (R.2.1 j) s e2 = _ from if_neg c3] at hK
                    exact one _ hK
                exact hC _ _ _ _ _ _ (And.intro (fun c3 => absurd c3 (nI_ge (by omega) (by omega))) (fun c3 => zer))
            rw [hsc]
            exact inner R.2.2.2.2.2.2.2 0 e (by omega) hK
          · rw [goK, if_pos c2] at hK
            exact hK
        | succ m ih2 =>
          intro i hi
          have hv : vp_in (nI i) 8 := vp_in_nI (by omega) (by omega)
          have hc : (nI i).toNatClampNeg = i := nI_clamp (by omega)
          have nx : ∀ z, selM q e (i + 1) = z → C 65 [(0, .ref 0), (1, .int (nI p)), (3, .int (nI t)), (4, .int z), (5, .int (nI i + 1))] [] (modelW 0 (tk 0 5) (tk 0 6) th tr wh fa ta sz ix so pl nu wd td mk mo tx P D (e) (q) co S Cc V ba B R L G) 0 0 := by
            intro z hz
            have h9 := ih2 (i + 1) (by omega)
            rw [hz, ← nI_1] at h9
            exact h9
          have hvs : ¬ selM q e i = -1 → vp_in (selM q e i) 8 := fun z => by
            obtain ⟨s, hs, hsn⟩ := (selM_lt q e i).resolve_left z
            rw [hs]; exact vp_in_nI (by omega) (by omega)
          refine hC _ _ _ _ _ _ ⟨h0, And.intro (fun c => absurd (show B.1 0 ≤ nI i from c) (by rw [hB]; exact nI_ge (by omega) (by omega))) (fun c => ⟨hv, And.intro (fun c2 => nx _ ?_) (fun c2 => ⟨hv, And.intro (fun c3 => nx _ ?_) (fun c3 => And.intro (fun c4 => nx _ ?_) (fun c4 => ⟨hv, hvs c4, And.intro (fun c5 => nx _ ?_) (fun c5 => nx _ ?_)⟩))⟩)⟩)⟩
          · rw [hc] at c2
            exact if_neg (fun z => c2 z.1)
          · rw [hc] at c3
            exact if_neg (fun z => z.2.1 c3)
          · rw [hc] at c2 c3
            exact if_pos ⟨c2, c3, Or.inl c4⟩
          · rw [hc] at c5
            exact if_neg (fun z => z.2.2.elim c4 (Int32.not_lt.mpr c5))
          · rw [hc] at c2 c3 c5
            exact if_pos ⟨c2, c3, Or.inr (Int32.not_le.mp c5)⟩
      exact hC _ _ _ _ _ _ ⟨h0, And.intro (fun c => absurd (show B.1 0 ≤ nI t from c) (by rw [hB]; exact nI_ge (by omega) (by omega))) (fun c => sel n 0 (by omega))⟩
  have ini : ∀ m i, i + m = 8 → C 2 [(0, .ref 0), (1, .int (nI p)), (2, .int d), (3, .int (nI i))] [] (modelW 0 (tk 0 5) (tk 0 6) th tr wh fa ta sz ix so pl nu wd td mk mo tx P D (goE x d ea i) (zf 0 pa i) co S Cc V ba B R L G) 0 0 := by
    intro m
    induction m with
    | zero =>
      intro i hi
      have hi : i = 8 := hi
      subst hi
      refine hC _ _ _ _ _ _ (And.intro (fun _ => ?_) (fun c => absurd (show (8 : Int32) ≤ nI 8 by decide) c))
      rw [goE_8 hx8]
      exact outer n 0 _ _ (by omega) hK
    | succ m ih =>
      intro i hi
      have hv : vp_in (nI i) 8 := vp_in_nI (by omega) (by omega)
      have hc : (nI i).toNatClampNeg = i := nI_clamp (by omega)
      have h9 := ih (i + 1) (by omega)
      rw [← goE_s, ← zf_s, ← nI_1] at h9
      refine hC _ _ _ _ _ _ (And.intro (fun c => absurd c (nI_ge (b := 8) (by omega) (by omega))) (fun _ => ⟨p1, And.intro (fun c => ⟨hv, hv, ?_⟩) (fun c => ⟨hv, hv, ?_⟩)⟩))
      · rw [p2, hx] at c
        rw [if_neg (fun z => c (by rw [z]))] at h9
        rw [hc]; exact h9
      · rw [p2, hx] at c
        rw [if_pos (by
          rcases Nat.decEq i x with z | z
          · exact absurd c (nI_ne z (by omega) (by omega))
          · exact z)] at h9
        rw [hc]; exact h9
  have h9 := ini 8 0 (by omega)
  rw [goE_0, zf_0] at h9
  exact hC _ _ _ _ _ _ h9
