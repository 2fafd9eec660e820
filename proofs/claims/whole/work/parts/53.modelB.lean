def rtP (P : PT) (L : LT) (R : RT) (p : Nat) (mk mo : Int32) (ea : Nat → Int32) (y : Int32) (r : Nat) : Bool := (decide (R.1 r = y) || decide (R.2.1 r = y)) && (decide (¬ ea (if R.1 r = y then R.2.1 r else R.1 r).toNatClampNeg = 1000000) && decide (mcome P L R p r mk mo (ea (if R.1 r = y then R.2.1 r else R.1 r).toNatClampNeg) = ea y.toNatClampNeg))

def tX14_roadTo : List q_I := [(0, .iconst 0, 1, 0, 0), (1, .istore_n 3, 1, 0, 0), (2, .iload_n 3, 1, 0, 0), (3, .aload_n 0, 1, 0, 0), (4, .getfield 379, 3, 0, 0), (7, .getfield 255, 3, 0, 0), (10, .if_icmp .ge 111, 3, 0, 121), (13, .aload_n 0, 1, 0, 0), (14, .getfield 379, 3, 0, 0), (17, .getfield 258, 3, 0, 0), (20, .iload_n 3, 1, 0, 0), (21, .iaload, 1, 0, 0), (22, .iload_n 2, 1, 0, 0), (23, .if_icmp .eq 19, 3, 0, 42), (26, .aload_n 0, 1, 0, 0), (27, .getfield 379, 3, 0, 0), (30, .getfield 264, 3, 0, 0), (33, .iload_n 3, 1, 0, 0), (34, .iaload, 1, 0, 0), (35, .iload_n 2, 1, 0, 0), (36, .if_icmp .eq 6, 3, 0, 42), (39, .goto 76, 3, 0, 115), (42, .aload_n 0, 1, 0, 0), (43, .getfield 379, 3, 0, 0), (46, .getfield 258, 3, 0, 0), (49, .iload_n 3, 1, 0, 0), (50, .iaload, 1, 0, 0), (51, .iload_n 2, 1, 0, 0), (52, .if_icmp .ne 15, 3, 0, 67), (55, .aload_n 0, 1, 0, 0), (56, .getfield 379, 3, 0, 0), (59, .getfield 264, 3, 0, 0), (62, .iload_n 3, 1, 0, 0), (63, .iaload, 1, 0, 0), (64, .goto 12, 3, 0, 76), (67, .aload_n 0, 1, 0, 0), (68, .getfield 379, 3, 0, 0), (71, .getfield 258, 3, 0, 0), (74, .iload_n 3, 1, 0, 0), (75, .iaload, 1, 0, 0), (76, .istore 4, 2, 0, 0), (78, .aload_n 0, 1, 0, 0), (79, .getfield 53, 3, 0, 0), (82, .iload 4, 2, 0, 0), (84, .iaload, 1, 0, 0), (85, .ldc_w 321, 3, 0, 0), (88, .if_icmp .eq 27, 3, 0, 115), (91, .aload_n 0, 1, 0, 0), (92, .iload_n 1, 1, 0, 0), (93, .iload_n 3, 1, 0, 0), (94, .aload_n 0, 1, 0, 0), (95, .getfield 53, 3, 0, 0), (98, .iload 4, 2, 0, 0), (100, .iaload, 1, 0, 0), (101, .invokevirtual 448, 3, 0, 0), (104, .aload_n 0, 1, 0, 0), (105, .getfield 53, 3, 0, 0), (108, .iload_n 2, 1, 0, 0), (109, .iaload, 1, 0, 0), (110, .if_icmp .ne 5, 3, 0, 115), (113, .iload_n 3, 1, 0, 0), (114, .ireturn, 1, 0, 0), (115, .iinc 3 1, 3, 1, 0), (118, .goto (-116), 3, 0, 2), (121, .iconst (-1), 1, (-1), 0), (122, .ireturn, 1, 0, 0)]
theorem tX14_roadTo_ok : (tX14_roadTo.all (q_okI cX14_roadTo)) = true := by decide +kernel

abbrev fdX14_roadTo : List (Nat ⊕ (Nat × Nat)) := [.inl 0, .inr (0, 7), .inr (0, 17), .inr (0, 18), .inr (0, 19), .inr (0, 20), .inr (0, 21), .inr (0, 22), .inr (0, 23), .inr (0, 26), .inr (0, 27), .inr (0, 28), .inr (0, 31), .inr (0, 32), .inr (0, 33), .inr (0, 34), .inr (0, 36), .inr (0, 37), .inr (0, 38), .inr (0, 39), .inr (0, 40), .inr (0, 41), .inr (0, 43), .inr (0, 44), .inr (0, 45), .inr (0, 46), .inr (0, 47), .inr (0, 48), .inr (0, 50), .inr (0, 51), .inr (0, 52), .inr (0, 4), .inr (31, 0), .inr (31, 1), .inr (31, 2), .inr (31, 3), .inr (31, 8), .inr (31, 9), .inr (31, 10), .inr (31, 11), .inr (31, 12), .inr (31, 13), .inr (31, 14), .inr (31, 15), .inr (31, 16), .inr (31, 17), .inr (31, 18), .inr (31, 19), .inr (31, 20), .inr (31, 21), .inr (31, 22), .inr (31, 23), .inr (31, 24), .inr (31, 25), .inr (31, 26), .inr (31, 27), .inr (31, 28)]
def spX14_roadTo : q_P := fun a w K => ∃ (th : Int32) (tr : Int32) (wh : Int32) (fa : Int32) (ta : Nat) (sz : Int32) (ix : Int32) (so : Int32) (pl : Int32) (nu : Int32) (wd : Int64) (td : Int32) (mk : Int32) (mo : Int32) (tx : Nat → Int32) (P : PT) (D : DT) (ea : Nat → Int32) (pa : Nat → Int32) (co : Nat → Int32) (S : ST) (Cc : CT) (V : VT) (ba : Nat → Int32) (B : BT) (R : RT) (L : LT) (G : GT) (n p y : Nat), w = (modelW 0 (tk 0 5) (tk 0 6) th tr wh fa ta sz ix so pl nu wd td mk mo tx P D ea pa co S Cc V ba B R L G) ∧ a = [.ref 0, .int (nI p), .int (nI y)] ∧ pOk P ∧ rOk R ∧ rEnd R n ∧ L_n L ≤ 24 ∧ n ≤ 8 ∧ p < P.2.2.2.2.2.2 ∧ y < 8 ∧ K (.inl (some (.int (oI (fstO (rtP P L R p mk mo ea (nI y)) 0 R.2.2.2.2.2.2.2))))) (modelW 0 (tk 0 5) (tk 0 6) th tr wh fa ta sz ix so pl nu wd td mk mo tx P D ea pa co S Cc V ba B R L G)
abbrev csX14_roadTo : q_S := (3, 14, 5, 5, 0, 0, fdX14_roadTo, spX14_roadTo)
def EX14_roadTo : q_E := (tX14_roadTo, [(2, [0, 1, 2, 3]), (76, [0, 1, 2, 3])], 5, flX14, [(448, csX14_comesBy)], [], [(321, 1000000)], [], [], [], 5, 0, 0, (some .int), [], [], 0, 0)
theorem okX14_roadTo (l : Launch) : q_Eok l RX14 cX14_roadTo EX14_roadTo := ⟨tX14_roadTo_ok, flX14_ok, List.forall_mem_cons.mpr ⟨(coX14_448 l), q_nil⟩, q_nil, List.forall_mem_cons.mpr ⟨q_G_i 1658 (by decide +kernel) rfl, q_nil⟩, q_nil, q_nil, q_nil, (fun h => absurd h (by decide))⟩
set_option maxRecDepth 100000 in
set_option maxHeartbeats 4000000 in
theorem ctX14_roadTo (l : Launch) : q_CT l yX14_roadTo (.code yX14_roadTo cX14_roadTo 5 (some .int)) 5 0 0 spX14_roadTo := by
  refine q_ct_of EX14_roadTo (by decide +kernel) (okX14_roadTo l) rfl rfl rfl rfl rfl q_nil (fun ci h => by cases h) rfl ?_
  intro a w K h
  obtain ⟨th, tr, wh, fa, ta, sz, ix, so, pl, nu, wd, td, mk, mo, tx, P, D, ea, pa, co, S, Cc, V, ba, B, R, L, G, n, p, y, rfl, rfl, ho, hro, hre, hL, hn, hp, hy, hK⟩ := h
  have hrn := hro.1
  have hcy : (nI y).toNatClampNeg = y := nI_clamp (by omega)
  have hvy : vp_in (nI y) 8 := vp_in_nI hy (by omega)
  refine ⟨Nat.le_of_ble_eq_true rfl, fun C hC => ?_⟩
  have loop : ∀ k j, j + k = R.2.2.2.2.2.2.2 → K (.inl (some (.int (oI (fstO (rtP P L R p mk mo ea (nI y)) j k))))) (modelW 0 (tk 0 5) (tk 0 6) th tr wh fa ta sz ix so pl nu wd td mk mo tx P D ea pa co S Cc V ba B R L G) → C 2 [(0, .ref 0), (1, .int (nI p)), (2, .int (nI y)), (3, .int (nI j))] [] (modelW 0 (tk 0 5) (tk 0 6) th tr wh fa ta sz ix so pl nu wd td mk mo tx P D ea pa co S Cc V ba B R L G) 0 0 := by
    intro k
    induction k with
    | zero =>
      intro j hj hK
      exact hC _ _ _ _ _ _ (And.intro (fun _ => hK) (fun z => absurd (nI_le (by omega) (by omega)) z))
    | succ k ih =>
      intro j hj hK
      have hrj : j < R.2.2.2.2.2.2.2 := by omega
      have hv : vp_in (nI j) 16 := vp_in_nI (by omega) (by omega)
      have hc : (nI j).toNatClampNeg = j := nI_clamp (by omega)
      obtain ⟨a, b, ha, hb, han, hbn⟩ := hre j hrj
      have no : rtP P L R p mk mo ea (nI y) j = false → C 2 [(0, .ref 0), (1, .int (nI p)), (2, .int (nI y)), (3, .int (nI j + 1))] [] (modelW 0 (tk 0 5) (tk 0 6) th tr wh fa ta sz ix so pl nu wd td mk mo tx P D ea pa co S Cc V ba B R L G) 0 0 := by
        intro hf
        rw [fstO, if_neg (by rw [hf]; decide)] at hK
        have h9 := ih (j + 1) (by omega) hK
        rw [nI_1]
        exact h9
      have fin : (decide (R.1 j = nI y) || decide (R.2.1 j = nI y)) = true → ∀ u, u = (if R.1 j = nI y then R.2.1 j else R.1 j) → C 76 [(0, .ref 0), (1, .int (nI p)), (2, .int (nI y)), (3, .int (nI j))] [.int u] (modelW 0 (tk 0 5) (tk 0 6) th tr wh fa ta sz ix so pl nu wd td mk mo tx P D ea pa co S Cc V ba B R L G) 0 0 := by
        intro h0 u hu
        have hvu : vp_in u 8 := by
          rw [hu]
          split
          · rw [hb]; exact vp_in_nI (by omega) (by omega)
          · rw [ha]; exact vp_in_nI (by omega) (by omega)
        have hP : rtP P L R p mk mo ea (nI y) j = (decide (¬ ea u.toNatClampNeg = 1000000) && decide (mcome P L R p j mk mo (ea u.toNatClampNeg) = ea y)) := by
          unfold rtP
          rw [h0, ← hu, hcy, Bool.true_and]
        refine hC _ _ _ _ _ _ ⟨hvu, And.intro (fun c => no ?_) (fun c => ⟨hvu, _, _, _, _, _, _, _, _, _, _, _, _, _, _, _, _, _, _, _, _, _, _, _, _, _, _, _, _, p, j, _, rfl, rfl, ho, hro, hL, hp, hrj, hvy, And.intro (fun c2 => no ?_) (fun c2 => ?_)⟩)⟩
        · rw [hP, decide_eq_false (fun z => z c), Bool.false_and]
        · rw [hcy] at c2
          rw [hP, decide_eq_false c2, Bool.and_false]
        · rw [hcy] at c2
          rw [fstO, if_pos (by rw [hP, decide_eq_true c, decide_eq_true c2]; rfl)] at hK
          exact hK
      refine hC _ _ _ _ _ _ (And.intro (fun z => absurd z (nI_ge (by omega) (by omega))) (fun _ => ⟨hv, And.intro (fun c => ⟨hv, And.intro (fun d => absurd (show R.1 (nI j).toNatClampNeg = nI y from c) d) (fun d => ⟨hv, ?_⟩)⟩) (fun c => ⟨hv, And.intro (fun c2 => ⟨hv, And.intro (fun d => ⟨hv, ?_⟩) (fun d => absurd (show R.1 (nI j).toNatClampNeg = nI y from d) c)⟩) (fun c2 => no ?_)⟩)⟩))
      · rw [hc] at c ⊢
        exact fin (by rw [decide_eq_true c, Bool.true_or]) _ (by rw [if_pos c])
      · rw [hc] at c c2 ⊢
        exact fin (by rw [decide_eq_true c2, Bool.or_true]) _ (by rw [if_neg c])
      · rw [hc] at c c2
        unfold rtP
        rw [decide_eq_false c, decide_eq_false c2]
        rfl
  exact hC _ _ _ _ _ _ (loop R.2.2.2.2.2.2.2 0 (by omega) hK)
/-- one step back on the way of FIRST -/
def ldU (P : PT) (L : LT) (R : RT) (p : Nat) (mk mo : Int32) (ea : Nat → Int32) (y : Nat) (r : Nat) : Nat := (if R.1 r = nI y then R.2.1 r else R.1 r).toNatClampNeg
def ldW2 (P : PT) (L : LT) (R : RT) (p : Nat) (mk mo : Int32) (ea : Nat → Int32) (x : Nat) : Nat → Nat → Nat → (Nat → Int32) → Option (Nat × (Nat → Int32))
  | 0, s, _, b => some (s, b)
  | k + 1, s, y, b => if y = x then some (s, b) else match fstO (rtP P L R p mk mo ea (nI y)) 0 R.2.2.2.2.2.2.2 with
    | none => none
    | some r => ldW2 P L R p mk mo ea x k (s + 1) (ldU P L R p mk mo ea y r) (upd b (s + 1) (nI (ldU P L R p mk mo ea y r)))
