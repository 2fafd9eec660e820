theorem nI_8m (p : Nat) : 8 * nI p = nI (p * 8) := by rw [Int32.mul_comm, nI_mul8]
theorem nI_3m (p : Nat) : 3 * nI p = nI (p * 3) := by rw [Int32.mul_comm, nI_mul3]

def tX14_comes : List q_I := [(0, .aload_n 0, 1, 0, 0), (1, .getfield 24, 3, 0, 0), (4, .aload_n 0, 1, 0, 0), (5, .getfield 382, 3, 0, 0), (8, .iload_n 1, 1, 0, 0), (9, .iastore, 1, 0, 0), (10, .aload_n 0, 1, 0, 0), (11, .getfield 28, 3, 0, 0), (14, .aload_n 0, 1, 0, 0), (15, .getfield 382, 3, 0, 0), (18, .iconst 0, 1, 0, 0), (19, .iastore, 1, 0, 0), (20, .aload_n 0, 1, 0, 0), (21, .getfield 43, 3, 0, 0), (24, .aload_n 0, 1, 0, 0), (25, .getfield 382, 3, 0, 0), (28, .lconst 0, 1, 0, 0), (29, .lastore, 1, 0, 0), (30, .aload_n 0, 1, 0, 0), (31, .dup, 1, 0, 0), (32, .getfield 382, 3, 0, 0), (35, .iconst 1, 1, 1, 0), (36, .iadd, 1, 0, 0), (37, .putfield 382, 3, 0, 0), (40, .aload_n 0, 1, 0, 0), (41, .getfield 382, 3, 0, 0), (44, .iconst 1, 1, 1, 0), (45, .isub, 1, 0, 0), (46, .ireturn, 1, 0, 0)]
theorem tX14_comes_ok : (tX14_comes.all (q_okI cX14_comes)) = true := by decide +kernel

abbrev fdX14_comes : List (Nat ⊕ (Nat × Nat)) := [.inl 0, .inr (0, 7), .inr (0, 17), .inr (0, 18), .inr (0, 19), .inr (0, 20), .inr (0, 21), .inr (0, 22), .inr (0, 23), .inr (0, 26), .inr (0, 27), .inr (0, 28), .inr (0, 31), .inr (0, 32), .inr (0, 33), .inr (0, 34), .inr (0, 36), .inr (0, 37), .inr (0, 38), .inr (0, 39), .inr (0, 40), .inr (0, 41), .inr (0, 43), .inr (0, 44), .inr (0, 45), .inr (0, 46), .inr (0, 47), .inr (0, 48), .inr (0, 50), .inr (0, 51), .inr (0, 52), .inr (0, 4), .inr (31, 0), .inr (31, 1), .inr (31, 2), .inr (31, 3), .inr (31, 8), .inr (31, 9), .inr (31, 10), .inr (31, 11), .inr (31, 12), .inr (31, 13), .inr (31, 14), .inr (31, 15), .inr (31, 16), .inr (31, 17), .inr (31, 18), .inr (31, 19), .inr (31, 20), .inr (31, 21), .inr (31, 22), .inr (31, 23), .inr (31, 24), .inr (31, 25), .inr (31, 26), .inr (31, 27), .inr (31, 28)]
def spX14_comes : q_P := fun a w K => ∃ (th : Int32) (tr : Int32) (wh : Int32) (fa : Int32) (ta : Nat) (sz : Int32) (ix : Int32) (so : Int32) (pl : Int32) (nu : Int32) (wd : Int64) (td : Int32) (mk : Int32) (mo : Int32) (tx : Nat → Int32) (P : PT) (D : DT) (ea : Nat → Int32) (pa : Nat → Int32) (co : Nat → Int32) (S : ST) (Cc : CT) (V : VT) (ba : Nat → Int32) (B : BT) (R : RT) (L : LT) (G : GT) (x : Int32), w = (modelW 0 (tk 0 5) (tk 0 6) th tr wh fa ta sz ix so pl nu wd td mk mo tx P D ea pa co S Cc V ba B R L G) ∧ a = [.ref 0, .int x] ∧ P.2.2.2.2.2.2 < 30 ∧ K (.inl (some (.int (nI P.2.2.2.2.2.2)))) (modelW 0 (tk 0 5) (tk 0 6) th tr wh fa ta sz ix so pl nu wd td mk mo tx (peopleAdd P x) ((D.1, D.2.1, vp_updL D.2.2.1 P.2.2.2.2.2.2 0, D.2.2.2)) ea pa co S Cc V ba B R L G)
abbrev csX14_comes : q_S := (2, 14, 0, 2, 0, 0, fdX14_comes, spX14_comes)
def EX14_comes : q_E := (tX14_comes, [], 2, flX14, [], [], [], [], [], [], 0, 0, 0, (some .int), [], [], 0, 0)
theorem okX14_comes (l : Launch) : q_Eok l RX14 cX14_comes EX14_comes := ⟨tX14_comes_ok, flX14_ok, q_nil, q_nil, q_nil, q_nil, q_nil, q_nil, (fun h => absurd h (by decide))⟩
set_option maxRecDepth 100000 in
set_option maxHeartbeats 4000000 in
theorem ctX14_comes (l : Launch) : q_CT l yX14_comes (.code yX14_comes cX14_comes 2 (some .int)) 0 0 0 spX14_comes := by
  refine q_ct_of EX14_comes (by decide +kernel) (okX14_comes l) rfl rfl rfl rfl rfl q_nil (fun ci h => by cases h) rfl ?_
  intro a w K h
  obtain ⟨th, tr, wh, fa, ta, sz, ix, so, pl, nu, wd, td, mk, mo, tx, P, D, ea, pa, co, S, Cc, V, ba, B, R, L, G, x, rfl, rfl, hn, hK⟩ := h
  refine ⟨Nat.le_of_ble_eq_true rfl, fun C hC => hC _ _ _ _ _ _ ?_⟩
  have hv : vp_in (nI P.2.2.2.2.2.2) 30 := vp_in_nI hn (by omega)
  have hc : (nI P.2.2.2.2.2.2).toNatClampNeg = P.2.2.2.2.2.2 := nI_clamp (by omega)
  refine ⟨hv, hv, hv, ?_⟩
  show K (.inl (some (.int _))) _
  simp only [hc, nI_1, nI_pred]
  exact hK
def tX14_gives : List q_I := [(0, .bipush 8, 2, 8, 0), (2, .iload_n 1, 1, 0, 0), (3, .imul, 1, 0, 0), (4, .aload_n 0, 1, 0, 0), (5, .getfield 28, 3, 0, 0), (8, .iload_n 1, 1, 0, 0), (9, .iaload, 1, 0, 0), (10, .iadd, 1, 0, 0), (11, .istore 6, 2, 0, 0), (13, .aload_n 0, 1, 0, 0), (14, .getfield 31, 3, 0, 0), (17, .iload 6, 2, 0, 0), (19, .iload_n 2, 1, 0, 0), (20, .iastore, 1, 0, 0), (21, .aload_n 0, 1, 0, 0), (22, .getfield 34, 3, 0, 0), (25, .iload 6, 2, 0, 0), (27, .iload_n 3, 1, 0, 0), (28, .iastore, 1, 0, 0), (29, .aload_n 0, 1, 0, 0), (30, .getfield 37, 3, 0, 0), (33, .iload 6, 2, 0, 0), (35, .iload 4, 2, 0, 0), (37, .iastore, 1, 0, 0), (38, .aload_n 0, 1, 0, 0), (39, .getfield 40, 3, 0, 0), (42, .iload 6, 2, 0, 0), (44, .iload 5, 2, 0, 0), (46, .iastore, 1, 0, 0), (47, .aload_n 0, 1, 0, 0), (48, .getfield 28, 3, 0, 0), (51, .iload_n 1, 1, 0, 0), (52, .dup2, 1, 0, 0), (53, .iaload, 1, 0, 0), (54, .iconst 1, 1, 1, 0), (55, .iadd, 1, 0, 0), (56, .iastore, 1, 0, 0), (57, .return_, 1, 0, 0)]
theorem tX14_gives_ok : (tX14_gives.all (q_okI cX14_gives)) = true := by decide +kernel

abbrev fdX14_gives : List (Nat ⊕ (Nat × Nat)) := [.inl 0, .inr (0, 7), .inr (0, 17), .inr (0, 18), .inr (0, 19), .inr (0, 20), .inr (0, 21), .inr (0, 22), .inr (0, 23), .inr (0, 26), .inr (0, 27), .inr (0, 28), .inr (0, 31), .inr (0, 32), .inr (0, 33), .inr (0, 34), .inr (0, 36), .inr (0, 37), .inr (0, 38), .inr (0, 39), .inr (0, 40), .inr (0, 41), .inr (0, 43), .inr (0, 44), .inr (0, 45), .inr (0, 46), .inr (0, 47), .inr (0, 48), .inr (0, 50), .inr (0, 51), .inr (0, 52), .inr (0, 4), .inr (31, 0), .inr (31, 1), .inr (31, 2), .inr (31, 3), .inr (31, 8), .inr (31, 9), .inr (31, 10), .inr (31, 11), .inr (31, 12), .inr (31, 13), .inr (31, 14), .inr (31, 15), .inr (31, 16), .inr (31, 17), .inr (31, 18), .inr (31, 19), .inr (31, 20), .inr (31, 21), .inr (31, 22), .inr (31, 23), .inr (31, 24), .inr (31, 25), .inr (31, 26), .inr (31, 27), .inr (31, 28)]
def spX14_gives : q_P := fun a w K => ∃ (th : Int32) (tr : Int32) (wh : Int32) (fa : Int32) (ta : Nat) (sz : Int32) (ix : Int32) (so : Int32) (pl : Int32) (nu : Int32) (wd : Int64) (td : Int32) (mk : Int32) (mo : Int32) (tx : Nat → Int32) (P : PT) (D : DT) (ea : Nat → Int32) (pa : Nat → Int32) (co : Nat → Int32) (S : ST) (Cc : CT) (V : VT) (ba : Nat → Int32) (B : BT) (R : RT) (L : LT) (G : GT) (p : Nat) (k o f t : Int32), w = (modelW 0 (tk 0 5) (tk 0 6) th tr wh fa ta sz ix so pl nu wd td mk mo tx P D ea pa co S Cc V ba B R L G) ∧ a = [.ref 0, .int (nI p), .int k, .int o, .int f, .int t] ∧ pOk P ∧ p < P.2.2.2.2.2.2 ∧ pcN P p < 8 ∧ K (.inl none) (modelW 0 (tk 0 5) (tk 0 6) th tr wh fa ta sz ix so pl nu wd td mk mo tx (peopleGive P p k o f t) D ea pa co S Cc V ba B R L G)
abbrev csX14_gives : q_S := (6, 14, 0, 7, 0, 0, fdX14_gives, spX14_gives)
def EX14_gives : q_E := (tX14_gives, [], 7, flX14, [], [], [], [], [], [], 0, 0, 0, none, [], [], 0, 0)
theorem okX14_gives (l : Launch) : q_Eok l RX14 cX14_gives EX14_gives := ⟨tX14_gives_ok, flX14_ok, q_nil, q_nil, q_nil, q_nil, q_nil, q_nil, (fun h => absurd h (by decide))⟩
set_option maxRecDepth 100000 in
set_option maxHeartbeats 4000000 in
theorem ctX14_gives (l : Launch) : q_CT l yX14_gives (.code yX14_gives cX14_gives 7 none) 0 0 0 spX14_gives := by
  refine q_ct_of EX14_gives (by decide +kernel) (okX14_gives l) rfl rfl rfl rfl rfl q_nil (fun ci h => by cases h) rfl ?_
  intro a w K h
  obtain ⟨th, tr, wh, fa, ta, sz, ix, so, pl, nu, wd, td, mk, mo, tx, P, D, ea, pa, co, S, Cc, V, ba, B, R, L, G, p, k, o, f, t, rfl, rfl, ho, hp, hr, hK⟩ := h
  obtain ⟨h1, h2, h3, h4, h5⟩ := pOk_ix ho hp
  refine ⟨Nat.le_of_ble_eq_true rfl, fun C hC => hC _ _ _ _ _ _ ?_⟩
  have e : 8 * nI p + P.2.1 (nI p).toNatClampNeg = nI (p * 8 + pcN P p) := by rw [nI_8m, h2, h3, nI_add]
  have hv : vp_in (8 * nI p + P.2.1 (nI p).toNatClampNeg) 240 := by rw [e]; exact vp_in_nI (by omega) (by omega)
  have hc : (nI (p * 8 + pcN P p)).toNatClampNeg = p * 8 + pcN P p := nI_clamp (by omega)
  refine ⟨h1, hv, hv, hv, hv, h1, h1, ?_⟩
  show K (.inl none) _
  rw [e, hc, h2, h3, nI_1]
  exact hK
def tX14_has : List q_I := [(0, .bipush 8, 2, 8, 0), (2, .iload_n 1, 1, 0, 0), (3, .imul, 1, 0, 0), (4, .istore 5, 2, 0, 0), (6, .iload 5, 2, 0, 0), (8, .bipush 8, 2, 8, 0), (10, .iload_n 1, 1, 0, 0), (11, .imul, 1, 0, 0), (12, .aload_n 0, 1, 0, 0), (13, .getfield 28, 3, 0, 0), (16, .iload_n 1, 1, 0, 0), (17, .iaload, 1, 0, 0), (18, .iadd, 1, 0, 0), (19, .if_icmp .ge 76, 3, 0, 95), (22, .aload_n 0, 1, 0, 0), (23, .getfield 31, 3, 0, 0), (26, .iload 5, 2, 0, 0), (28, .iaload, 1, 0, 0), (29, .iload_n 2, 1, 0, 0), (30, .if_icmp .ne 31, 3, 0, 61), (33, .iload 4, 2, 0, 0), (35, .aload_n 0, 1, 0, 0), (36, .getfield 37, 3, 0, 0), (39, .iload 5, 2, 0, 0), (41, .iaload, 1, 0, 0), (42, .if_icmp .lt 19, 3, 0, 61), (45, .iload 4, 2, 0, 0), (47, .aload_n 0, 1, 0, 0), (48, .getfield 40, 3, 0, 0), (51, .iload 5, 2, 0, 0), (53, .iaload, 1, 0, 0), (54, .if_icmp .gt 7, 3, 0, 61), (57, .iconst 1, 1, 1, 0), (58, .goto 4, 3, 0, 62), (61, .iconst 0, 1, 0, 0), (62, .istore 6, 2, 0, 0), (64, .iload 6, 2, 0, 0), (66, .ifCond .eq 23, 3, 0, 89), (69, .aload_n 0, 1, 0, 0), (70, .iload_n 3, 1, 0, 0), (71, .iload_n 2, 1, 0, 0), (72, .aload_n 0, 1, 0, 0), (73, .getfield 34, 3, 0, 0), (76, .iload 5, 2, 0, 0), (78, .iaload, 1, 0, 0), (79, .iload 4, 2, 0, 0), (81, .invokevirtual 430, 3, 0, 0), (84, .ifCond .eq 5, 3, 0, 89), (87, .iconst 1, 1, 1, 0), (88, .ireturn, 1, 0, 0), (89, .iinc 5 1, 3, 1, 0), (92, .goto (-86), 3, 0, 6), (95, .iconst 0, 1, 0, 0), (96, .ireturn, 1, 0, 0)]
theorem tX14_has_ok : (tX14_has.all (q_okI cX14_has)) = true := by decide +kernel

abbrev fdX14_has : List (Nat ⊕ (Nat × Nat)) := [.inl 0, .inr (0, 7), .inr (0, 17), .inr (0, 18), .inr (0, 19), .inr (0, 20), .inr (0, 21), .inr (0, 22), .inr (0, 23), .inr (0, 26), .inr (0, 27), .inr (0, 28), .inr (0, 31), .inr (0, 32), .inr (0, 33), .inr (0, 34), .inr (0, 36), .inr (0, 37), .inr (0, 38), .inr (0, 39), .inr (0, 40), .inr (0, 41), .inr (0, 43), .inr (0, 44), .inr (0, 45), .inr (0, 46), .inr (0, 47), .inr (0, 48), .inr (0, 50), .inr (0, 51), .inr (0, 52), .inr (0, 4), .inr (31, 0), .inr (31, 1), .inr (31, 2), .inr (31, 3), .inr (31, 8), .inr (31, 9), .inr (31, 10), .inr (31, 11), .inr (31, 12), .inr (31, 13), .inr (31, 14), .inr (31, 15), .inr (31, 16), .inr (31, 17), .inr (31, 18), .inr (31, 19), .inr (31, 20), .inr (31, 21), .inr (31, 22), .inr (31, 23), .inr (31, 24), .inr (31, 25), .inr (31, 26), .inr (31, 27), .inr (31, 28)]
def spX14_has : q_P := fun a w K => ∃ (th : Int32) (tr : Int32) (wh : Int32) (fa : Int32) (ta : Nat) (sz : Int32) (ix : Int32) (so : Int32) (pl : Int32) (nu : Int32) (wd : Int64) (td : Int32) (mk : Int32) (mo : Int32) (tx : Nat → Int32) (P : PT) (D : DT) (ea : Nat → Int32) (pa : Nat → Int32) (co : Nat → Int32) (S : ST) (Cc : CT) (V : VT) (ba : Nat → Int32) (B : BT) (R : RT) (L : LT) (G : GT) (p : Nat) (k x d : Int32), w = (modelW 0 (tk 0 5) (tk 0 6) th tr wh fa ta sz ix so pl nu wd td mk mo tx P D ea pa co S Cc V ba B R L G) ∧ a = [.ref 0, .int (nI p), .int k, .int x, .int d] ∧ pOk P ∧ L_n L ≤ 24 ∧ p < P.2.2.2.2.2.2 ∧ K (.inl (some (.int (bI (hasGd P L p k x d))))) (modelW 0 (tk 0 5) (tk 0 6) th tr wh fa ta sz ix so pl nu wd td mk mo tx P D ea pa co S Cc V ba B R L G)
abbrev csX14_has : q_S := (5, 14, 2, 7, 0, 0, fdX14_has, spX14_has)
theorem coX14_430 (l : Launch) : q_CO l RX14 430 csX14_isTaken := ⟨yX14_isTaken, cX14_isTaken, (some .boolean), 4, ⟨by decide +kernel, by decide +kernel, by decide +kernel⟩, q_G_i 17 (by decide +kernel) rfl, Or.inl ⟨by decide, rfl, rfl, q_G_i 1766 (by decide +kernel) rfl, q_G_i 1768 (by decide +kernel) rfl, q_G_s (n := 53) 76 (by decide +kernel), Or.inl ⟨q_G_i 1769 (by decide +kernel) rfl, ctX14_isTaken l⟩⟩⟩
def EX14_has : q_E := (tX14_has, [(6, [0, 1, 2, 3, 4, 5]), (64, [0, 1, 2, 3, 4, 5, 6])], 7, flX14, [(430, csX14_isTaken)], [], [], [], [], [], 2, 0, 0, (some .boolean), [], [], 0, 0)
theorem okX14_has (l : Launch) : q_Eok l RX14 cX14_has EX14_has := ⟨tX14_has_ok, flX14_ok, List.forall_mem_cons.mpr ⟨(coX14_430 l), q_nil⟩, q_nil, q_nil, q_nil, q_nil, q_nil, (fun h => absurd h (by decide))⟩
set_option maxRecDepth 100000 in
set_option maxHeartbeats 4000000 in
theorem ctX14_has (l : Launch) : q_CT l yX14_has (.code yX14_has cX14_has 7 (some .boolean)) 2 0 0 spX14_has := by
  refine q_ct_of EX14_has (by decide +kernel) (okX14_has l) rfl rfl rfl rfl rfl q_nil (fun ci h => by cases h) rfl ?_
  intro a w K h
  obtain ⟨th, tr, wh, fa, ta, sz, ix, so, pl, nu, wd, td, mk, mo, tx, P, D, ea, pa, co, S, Cc, V, ba, B, R, L, G, p, k, x, d, rfl, rfl, ho, hL, hp, hK⟩ := h
  obtain ⟨h1, h2, h3, h4, h5⟩ := pOk_ix ho hp
  have e0 : 8 * nI p = nI (p * 8) := nI_8m p
  have e : 8 * nI p + P.2.1 (nI p).toNatClampNeg = nI (p * 8 + pcN P p) := by rw [nI_8m, h2, h3, nI_add]
  refine ⟨Nat.le_of_ble_eq_true rfl, fun C hC => ?_⟩
  have loop : ∀ j i, i + j = pcN P p → K (.inl (some (.int (bI (anyF (fun q => decide (P.2.2.1 q = k) && (lastsP P d q && accOn L d x k (P.2.2.2.1 q))) (p * 8 + i) j))))) (modelW 0 (tk 0 5) (tk 0 6) th tr wh fa ta sz ix so pl nu wd td mk mo tx P D ea pa co S Cc V ba B R L G) → C 6 [(0, .ref 0), (1, .int (nI p)), (2, .int k), (3, .int x), (4, .int d), (5, .int (nI (p * 8 + i)))] [] (modelW 0 (tk 0 5) (tk 0 6) th tr wh fa ta sz ix so pl nu wd td mk mo tx P D ea pa co S Cc V ba B R L G) 0 0 := by
    intro j
    induction j with
    | zero =>
      intro i hi hK
      refine hC _ _ _ _ _ _ ⟨h1, And.intro (fun c => ⟨rfl, hK⟩) (fun c => absurd (by rw [e]; exact nI_le (by omega) (by omega)) c)⟩
    | succ j ih =>
      intro i hi hK
      rw [anyF] at hK
      have hv : vp_in (nI (p * 8 + i)) 240 := vp_in_nI (by omega) (by omega)
      have hc : (nI (p * 8 + i)).toNatClampNeg = p * 8 + i := nI_clamp (by omega)
      have no : (decide (P.2.2.1 (p * 8 + i) = k) && (lastsP P d (p * 8 + i) && accOn L d x k (P.2.2.2.1 (p * 8 + i)))) = false → C 6 [(0, .ref 0), (1, .int (nI p)), (2, .int k), (3, .int x), (4, .int d), (5, .int (nI (p * 8 + i) + 1))] [] (modelW 0 (tk 0 5) (tk 0 6) th tr wh fa ta sz ix so pl nu wd td mk mo tx P D ea pa co S Cc V ba B R L G) 0 0 := by
        intro hf
        rw [hf, Bool.false_or] at hK
        have h9 := ih (i + 1) (by omega) (by rw [show p * 8 + (i + 1) = p * 8 + i + 1 by omega]; exact hK)
        rw [nI_1]
        exact h9
      have fin : ∀ b : Bool, b = (decide (P.2.2.1 (p * 8 + i) = k) && lastsP P d (p * 8 + i)) → C 64 [(0, .ref 0), (1, .int (nI p)), (2, .int k), (3, .int x), (4, .int d), (5, .int (nI (p * 8 + i))), (6, .int (bI b))] [] (modelW 0 (tk 0 5) (tk 0 6) th tr wh fa ta sz ix so pl nu wd td mk mo tx P D ea pa co S Cc V ba B R L G) 0 0 := by
        intro b hb
        refine hC _ _ _ _ _ _ (And.intro (fun c => ?_) (fun c => ?_))
        · rw [bI_0.mp c] at hb
          exact no (by rw [← Bool.and_assoc, ← hb, Bool.false_and])
        · rw [bI_n0.mp c] at hb
          refine ⟨hv, _, _, _, _, _, _, _, _, _, _, _, _, _, _, _, _, _, _, _, _, _, _, _, _, _, _, _, _, rfl, rfl, hL, And.intro (fun c2 => ?_) (fun c2 => ⟨rfl, ?_⟩)⟩
          · have c2 := bI_0.mp c2
            rw [hc] at c2
            exact no (by rw [← Bool.and_assoc, ← hb, c2, Bool.true_and])
          · have c2 := bI_n0.mp c2
            rw [hc] at c2
            rw [← Bool.and_assoc, ← hb, c2, Bool.true_and, Bool.true_or] at hK
            exact hK
      refine hC _ _ _ _ _ _ ⟨h1, And.intro (fun c => absurd c (by rw [e]; exact nI_ge (by omega) (by omega))) (fun _ => ⟨hv, And.intro (fun c => ?_) (fun c => ⟨hv, And.intro (fun c2 => ?_) (fun c2 => ⟨hv, And.intro (fun c3 => ?_) (fun c3 => ?_)⟩)⟩)⟩)⟩
      · rw [hc] at c
        exact fin false (by rw [decide_eq_false c, Bool.false_and])
      · rw [hc] at c2
        exact fin false (by rw [lastsP, decide_eq_false (Int32.not_le.mpr c2), Bool.false_and, Bool.and_false])
      · rw [hc] at c3
        exact fin false (by rw [lastsP, decide_eq_false (Int32.not_le.mpr c3), Bool.and_false, Bool.and_false])
      · rw [hc] at c c2 c3
        exact fin true (by rw [lastsP, decide_eq_true c, decide_eq_true (Int32.not_lt.mp c2), decide_eq_true (Int32.not_lt.mp c3)]; rfl)
  have h9 := loop (pcN P p) 0 (by omega) hK
  rw [Nat.add_zero, ← e0] at h9
  exact hC _ _ _ _ _ _ h9
def tX14_goodIn : List q_I := [(0, .iconst 0, 1, 0, 0), (1, .istore 4, 2, 0, 0), (3, .iconst 0, 1, 0, 0), (4, .istore 5, 2, 0, 0), (6, .iload 5, 2, 0, 0), (8, .aload_n 0, 1, 0, 0), (9, .getfield 379, 3, 0, 0), (12, .getfield 246, 3, 0, 0), (15, .iconst 1, 1, 1, 0), (16, .iaload, 1, 0, 0), (17, .if_icmp .ge 34, 3, 0, 51), (20, .iload 4, 2, 0, 0), (22, .aload_n 0, 1, 0, 0), (23, .iload_n 1, 1, 0, 0), (24, .iload_n 2, 1, 0, 0), (25, .iload 5, 2, 0, 0), (27, .iload_n 3, 1, 0, 0), (28, .invokevirtual 434, 3, 0, 0), (31, .ifCond .eq 10, 3, 0, 41), (34, .iconst 1, 1, 1, 0), (35, .iload 5, 2, 0, 0), (37, .ishl, 1, 0, 0), (38, .goto 4, 3, 0, 42), (41, .iconst 0, 1, 0, 0), (42, .ior, 1, 0, 0), (43, .istore 4, 2, 0, 0), (45, .iinc 5 1, 3, 1, 0), (48, .goto (-42), 3, 0, 6), (51, .iload 4, 2, 0, 0), (53, .ireturn, 1, 0, 0)]
theorem tX14_goodIn_ok : (tX14_goodIn.all (q_okI cX14_goodIn)) = true := by decide +kernel

abbrev fdX14_goodIn : List (Nat ⊕ (Nat × Nat)) := [.inl 0, .inr (0, 7), .inr (0, 17), .inr (0, 18), .inr (0, 19), .inr (0, 20), .inr (0, 21), .inr (0, 22), .inr (0, 23), .inr (0, 26), .inr (0, 27), .inr (0, 28), .inr (0, 31), .inr (0, 32), .inr (0, 33), .inr (0, 34), .inr (0, 36), .inr (0, 37), .inr (0, 38), .inr (0, 39), .inr (0, 40), .inr (0, 41), .inr (0, 43), .inr (0, 44), .inr (0, 45), .inr (0, 46), .inr (0, 47), .inr (0, 48), .inr (0, 50), .inr (0, 51), .inr (0, 52), .inr (0, 4), .inr (31, 0), .inr (31, 1), .inr (31, 2), .inr (31, 3), .inr (31, 8), .inr (31, 9), .inr (31, 10), .inr (31, 11), .inr (31, 12), .inr (31, 13), .inr (31, 14), .inr (31, 15), .inr (31, 16), .inr (31, 17), .inr (31, 18), .inr (31, 19), .inr (31, 20), .inr (31, 21), .inr (31, 22), .inr (31, 23), .inr (31, 24), .inr (31, 25), .inr (31, 26), .inr (31, 27), .inr (31, 28)]
def spX14_goodIn : q_P := fun a w K => ∃ (th : Int32) (tr : Int32) (wh : Int32) (fa : Int32) (ta : Nat) (sz : Int32) (ix : Int32) (so : Int32) (pl : Int32) (nu : Int32) (wd : Int64) (td : Int32) (mk : Int32) (mo : Int32) (tx : Nat → Int32) (P : PT) (D : DT) (ea : Nat → Int32) (pa : Nat → Int32) (co : Nat → Int32) (S : ST) (Cc : CT) (V : VT) (ba : Nat → Int32) (B : BT) (R : RT) (L : LT) (G : GT) (n p : Nat) (k d : Int32), w = (modelW 0 (tk 0 5) (tk 0 6) th tr wh fa ta sz ix so pl nu wd td mk mo tx P D ea pa co S Cc V ba B R L G) ∧ a = [.ref 0, .int (nI p), .int k, .int d] ∧ pOk P ∧ L_n L ≤ 24 ∧ p < P.2.2.2.2.2.2 ∧ B.1 1 = nI n ∧ n ≤ 5 ∧ K (.inl (some (.int (landsG P L p k d n)))) (modelW 0 (tk 0 5) (tk 0 6) th tr wh fa ta sz ix so pl nu wd td mk mo tx P D ea pa co S Cc V ba B R L G)
abbrev csX14_goodIn : q_S := (4, 14, 3, 6, 0, 0, fdX14_goodIn, spX14_goodIn)
theorem coX14_434 (l : Launch) : q_CO l RX14 434 csX14_has := ⟨yX14_has, cX14_has, (some .boolean), 4, ⟨by decide +kernel, by decide +kernel, by decide +kernel⟩, q_G_i 17 (by decide +kernel) rfl, Or.inl ⟨by decide, rfl, rfl, q_G_i 1762 (by decide +kernel) rfl, q_G_i 1764 (by decide +kernel) rfl, q_G_s (n := 53) 75 (by decide +kernel), Or.inl ⟨q_G_i 1765 (by decide +kernel) rfl, ctX14_has l⟩⟩⟩
def EX14_goodIn : q_E := (tX14_goodIn, [(6, [0, 1, 2, 3, 4, 5])], 6, flX14, [(434, csX14_has)], [], [], [], [], [], 3, 0, 0, (some .int), [], [], 0, 0)
theorem okX14_goodIn (l : Launch) : q_Eok l RX14 cX14_goodIn EX14_goodIn := ⟨tX14_goodIn_ok, flX14_ok, List.forall_mem_cons.mpr ⟨(coX14_434 l), q_nil⟩, q_nil, q_nil, q_nil, q_nil, q_nil, (fun h => absurd h (by decide))⟩
set_option maxRecDepth 100000 in
set_option maxHeartbeats 4000000 in
theorem ctX14_goodIn (l : Launch) : q_CT l yX14_goodIn (.code yX14_goodIn cX14_goodIn 6 (some .int)) 3 0 0 spX14_goodIn := by
  refine q_ct_of EX14_goodIn (by decide +kernel) (okX14_goodIn l) rfl rfl rfl rfl rfl q_nil (fun ci h => by cases h) rfl ?_
  intro a w K h
  obtain ⟨th, tr, wh, fa, ta, sz, ix, so, pl, nu, wd, td, mk, mo, tx, P, D, ea, pa, co, S, Cc, V, ba, B, R, L, G, n, p, k, d, rfl, rfl, ho, hL, hp, hB, hn, hK⟩ := h
  have h0 : vp_in (1 : Int32) 4 := vp_in_nI (n := 1) (by decide) (by decide)
  refine ⟨Nat.le_of_ble_eq_true rfl, fun C hC => ?_⟩
  have loop : ∀ j i, i + j = n → C 6 [(0, .ref 0), (1, .int (nI p)), (2, .int k), (3, .int d), (4, .int (landsG P L p k d i)), (5, .int (nI i))] [] (modelW 0 (tk 0 5) (tk 0 6) th tr wh fa ta sz ix so pl nu wd td mk mo tx P D ea pa co S Cc V ba B R L G) 0 0 := by
    intro j
    induction j with
    | zero =>
      intro i hi
      have hi : i = n := hi
      subst hi
      refine hC _ _ _ _ _ _ ⟨h0, And.intro (fun c => hK) (fun c => absurd (show B.1 1 ≤ nI i by rw [hB]; exact nI_le (Nat.le_refl _) (by omega)) c)⟩
    | succ j ih =>
      intro i hi
      have h9 := ih (i + 1) (by omega)
      rw [landsG, ← nI_1] at h9
      refine hC _ _ _ _ _ _ ⟨h0, And.intro (fun c => absurd (show B.1 1 ≤ nI i from c) (by rw [hB]; exact nI_ge (by omega) (by omega))) (fun c => ⟨_, _, _, _, _, _, _, _, _, _, _, _, _, _, _, _, _, _, _, _, _, _, _, _, _, _, _, _, p, k, nI i, d, rfl, rfl, ho, hL, hp, And.intro (fun c2 => ?_) (fun c2 => ?_)⟩)⟩
      · rw [if_neg (by rw [bI_0.mp c2]; decide)] at h9
        rw [← show landsG P L p k d i ||| 0 = landsG P L p k d i from Int32.or_zero] at h9
        exact h9
      · rw [if_pos (bI_n0.mp c2)] at h9
        exact h9
  exact hC _ _ _ _ _ _ (loop n 0 (by omega))
def tX14_isOpen : List q_I := [(0, .iconst 3, 1, 3, 0), (1, .iload_n 2, 1, 0, 0), (2, .imul, 1, 0, 0), (3, .istore 4, 2, 0, 0), (5, .iload 4, 2, 0, 0), (7, .iconst 3, 1, 3, 0), (8, .iload_n 2, 1, 0, 0), (9, .imul, 1, 0, 0), (10, .aload_n 0, 1, 0, 0), (11, .getfield 379, 3, 0, 0), (14, .getfield 283, 3, 0, 0), (17, .iload_n 2, 1, 0, 0), (18, .iaload, 1, 0, 0), (19, .iadd, 1, 0, 0), (20, .if_icmp .ge 95, 3, 0, 115), (23, .aload_n 0, 1, 0, 0), (24, .iload_n 1, 1, 0, 0), (25, .aload_n 0, 1, 0, 0), (26, .getfield 379, 3, 0, 0), (29, .getfield 286, 3, 0, 0), (32, .iload 4, 2, 0, 0), (34, .iaload, 1, 0, 0), (35, .aload_n 0, 1, 0, 0), (36, .getfield 379, 3, 0, 0), (39, .getfield 291, 3, 0, 0), (42, .iload 4, 2, 0, 0), (44, .iaload, 1, 0, 0), (45, .iload_n 3, 1, 0, 0), (46, .invokevirtual 434, 3, 0, 0), (49, .ifCond .ne 46, 3, 0, 95), (52, .aload_n 0, 1, 0, 0), (53, .getfield 379, 3, 0, 0), (56, .getfield 286, 3, 0, 0), (59, .iload 4, 2, 0, 0), (61, .iaload, 1, 0, 0), (62, .aload_n 0, 1, 0, 0), (63, .getfield 47, 3, 0, 0), (66, .if_icmp .ne 33, 3, 0, 99), (69, .aload_n 0, 1, 0, 0), (70, .aload_n 0, 1, 0, 0), (71, .getfield 379, 3, 0, 0), (74, .getfield 291, 3, 0, 0), (77, .iload 4, 2, 0, 0), (79, .iaload, 1, 0, 0), (80, .aload_n 0, 1, 0, 0), (81, .getfield 47, 3, 0, 0), (84, .aload_n 0, 1, 0, 0), (85, .getfield 50, 3, 0, 0), (88, .iload_n 3, 1, 0, 0), (89, .invokevirtual 430, 3, 0, 0), (92, .ifCond .eq 7, 3, 0, 99), (95, .iconst 1, 1, 1, 0), (96, .goto 4, 3, 0, 100), (99, .iconst 0, 1, 0, 0), (100, .istore 5, 2, 0, 0), (102, .iload 5, 2, 0, 0), (104, .ifCond .ne 5, 3, 0, 109), (107, .iconst 0, 1, 0, 0), (108, .ireturn, 1, 0, 0), (109, .iinc 4 1, 3, 1, 0), (112, .goto (-107), 3, 0, 5), (115, .iconst 1, 1, 1, 0), (116, .ireturn, 1, 0, 0)]
theorem tX14_isOpen_ok : (tX14_isOpen.all (q_okI cX14_isOpen)) = true := by decide +kernel

abbrev fdX14_isOpen : List (Nat ⊕ (Nat × Nat)) := [.inl 0, .inr (0, 7), .inr (0, 17), .inr (0, 18), .inr (0, 19), .inr (0, 20), .inr (0, 21), .inr (0, 22), .inr (0, 23), .inr (0, 26), .inr (0, 27), .inr (0, 28), .inr (0, 31), .inr (0, 32), .inr (0, 33), .inr (0, 34), .inr (0, 36), .inr (0, 37), .inr (0, 38), .inr (0, 39), .inr (0, 40), .inr (0, 41), .inr (0, 43), .inr (0, 44), .inr (0, 45), .inr (0, 46), .inr (0, 47), .inr (0, 48), .inr (0, 50), .inr (0, 51), .inr (0, 52), .inr (0, 4), .inr (31, 0), .inr (31, 1), .inr (31, 2), .inr (31, 3), .inr (31, 8), .inr (31, 9), .inr (31, 10), .inr (31, 11), .inr (31, 12), .inr (31, 13), .inr (31, 14), .inr (31, 15), .inr (31, 16), .inr (31, 17), .inr (31, 18), .inr (31, 19), .inr (31, 20), .inr (31, 21), .inr (31, 22), .inr (31, 23), .inr (31, 24), .inr (31, 25), .inr (31, 26), .inr (31, 27), .inr (31, 28)]
def spX14_isOpen : q_P := fun a w K => ∃ (th : Int32) (tr : Int32) (wh : Int32) (fa : Int32) (ta : Nat) (sz : Int32) (ix : Int32) (so : Int32) (pl : Int32) (nu : Int32) (wd : Int64) (td : Int32) (mk : Int32) (mo : Int32) (tx : Nat → Int32) (P : PT) (D : DT) (ea : Nat → Int32) (pa : Nat → Int32) (co : Nat → Int32) (S : ST) (Cc : CT) (V : VT) (ba : Nat → Int32) (B : BT) (R : RT) (L : LT) (G : GT) (p r : Nat) (d : Int32), w = (modelW 0 (tk 0 5) (tk 0 6) th tr wh fa ta sz ix so pl nu wd td mk mo tx P D ea pa co S Cc V ba B R L G) ∧ a = [.ref 0, .int (nI p), .int (nI r), .int d] ∧ pOk P ∧ rOk R ∧ L_n L ≤ 24 ∧ p < P.2.2.2.2.2.2 ∧ r < R.2.2.2.2.2.2.2 ∧ K (.inl (some (.int (bI (opnW R L (metB P L R p d) mk mo d r))))) (modelW 0 (tk 0 5) (tk 0 6) th tr wh fa ta sz ix so pl nu wd td mk mo tx P D ea pa co S Cc V ba B R L G)
abbrev csX14_isOpen : q_S := (4, 14, 3, 6, 0, 0, fdX14_isOpen, spX14_isOpen)
def EX14_isOpen : q_E := (tX14_isOpen, [(5, [0, 1, 2, 3, 4]), (102, [0, 1, 2, 3, 4, 5])], 6, flX14, [(434, csX14_has), (430, csX14_isTaken)], [], [], [], [], [], 3, 0, 0, (some .boolean), [], [], 0, 0)
theorem okX14_isOpen (l : Launch) : q_Eok l RX14 cX14_isOpen EX14_isOpen := ⟨tX14_isOpen_ok, flX14_ok, List.forall_mem_cons.mpr ⟨(coX14_434 l), List.forall_mem_cons.mpr ⟨(coX14_430 l), q_nil⟩⟩, q_nil, q_nil, q_nil, q_nil, q_nil, (fun h => absurd h (by decide))⟩
set_option maxRecDepth 100000 in
set_option maxHeartbeats 4000000 in
theorem ctX14_isOpen (l : Launch) : q_CT l yX14_isOpen (.code yX14_isOpen cX14_isOpen 6 (some .boolean)) 3 0 0 spX14_isOpen := by
  refine q_ct_of EX14_isOpen (by decide +kernel) (okX14_isOpen l) rfl rfl rfl rfl rfl q_nil (fun ci h => by cases h) rfl ?_
  intro a w K h
  obtain ⟨th, tr, wh, fa, ta, sz, ix, so, pl, nu, wd, td, mk, mo, tx, P, D, ea, pa, co, S, Cc, V, ba, B, R, L, G, p, r, d, rfl, rfl, ho, hro, hL, hp, hr, hK⟩ := h
  have hr16 := hro.1
  obtain ⟨r3, r4⟩ := hro.2 r hr
  have hv0 : vp_in (nI r) 16 := vp_in_nI (by omega) (by omega)
  have e0 : 3 * nI r = nI (r * 3) := nI_3m r
  have e : 3 * nI r + R.2.2.2.2.1 (nI r).toNatClampNeg = nI (r * 3 + rpN R r) := by rw [nI_3m, nI_clamp (by omega), r3, nI_add]
  refine ⟨Nat.le_of_ble_eq_true rfl, fun C hC => ?_⟩
  have loop : ∀ j i, i + j = rpN R r → K (.inl (some (.int (bI (allF (fun k => metB P L R p d k || (decide (R.2.2.2.2.2.1 k = mk) && accOn L d (R.2.2.2.2.2.2.1 k) mk mo)) (r * 3 + i) j))))) (modelW 0 (tk 0 5) (tk 0 6) th tr wh fa ta sz ix so pl nu wd td mk mo tx P D ea pa co S Cc V ba B R L G) → C 5 [(0, .ref 0), (1, .int (nI p)), (2, .int (nI r)), (3, .int d), (4, .int (nI (r * 3 + i)))] [] (modelW 0 (tk 0 5) (tk 0 6) th tr wh fa ta sz ix so pl nu wd td mk mo tx P D ea pa co S Cc V ba B R L G) 0 0 := by
    intro j
    induction j with
    | zero =>
      intro i hi hK
      refine hC _ _ _ _ _ _ ⟨hv0, And.intro (fun c => ⟨rfl, hK⟩) (fun c => absurd (by rw [e]; exact nI_le (by omega) (by omega)) c)⟩
    | succ j ih =>
      intro i hi hK
      rw [allF] at hK
      have hv : vp_in (nI (r * 3 + i)) 48 := vp_in_nI (by omega) (by omega)
      have hc : (nI (r * 3 + i)).toNatClampNeg = r * 3 + i := nI_clamp (by omega)
      have fin : ∀ b : Bool, b = (metB P L R p d (r * 3 + i) || (decide (R.2.2.2.2.2.1 (r * 3 + i) = mk) && accOn L d (R.2.2.2.2.2.2.1 (r * 3 + i)) mk mo)) → C 102 [(0, .ref 0), (1, .int (nI p)), (2, .int (nI r)), (3, .int d), (4, .int (nI (r * 3 + i))), (5, .int (bI b))] [] (modelW 0 (tk 0 5) (tk 0 6) th tr wh fa ta sz ix so pl nu wd td mk mo tx P D ea pa co S Cc V ba B R L G) 0 0 := by
        intro b hb
        rw [← hb] at hK
        refine hC _ _ _ _ _ _ (And.intro (fun c => ?_) (fun c => ?_))
        · rw [bI_n0.mp c, Bool.true_and] at hK
          have h9 := ih (i + 1) (by omega) (by rw [show r * 3 + (i + 1) = r * 3 + i + 1 by omega]; exact hK)
          rw [show r * 3 + (i + 1) = r * 3 + i + 1 by omega, ← nI_1] at h9
          exact h9
        · rw [bI_0.mp c, Bool.false_and] at hK
          exact ⟨rfl, hK⟩
      refine hC _ _ _ _ _ _ ⟨hv0, And.intro (fun c => absurd c (by rw [e]; exact nI_ge (by omega) (by omega))) (fun _ => ⟨hv, hv, _, _, _, _, _, _, _, _, _, _, _, _, _, _, _, _, _, _, _, _, _, _, _, _, _, _, _, _, p, _, _, d, rfl, rfl, ho, hL, hp, And.intro (fun c => ?_) (fun c => ⟨hv, And.intro (fun c2 => ?_) (fun c2 => ⟨hv, _, _, _, _, _, _, _, _, _, _, _, _, _, _, _, _, _, _, _, _, _, _, _, _, _, _, _, _, rfl, rfl, hL, And.intro (fun c3 => ?_) (fun c3 => ?_)⟩)⟩)⟩)⟩
      · have c := bI_n0.mp c
        rw [hc] at c
        exact fin true (by rw [show metB P L R p d (r * 3 + i) = true from c, Bool.true_or])
      · have c := bI_0.mp c
        rw [hc] at c c2
        exact fin false (by rw [show metB P L R p d (r * 3 + i) = false from c, decide_eq_false c2, Bool.false_and, Bool.or_false])
      · have c := bI_0.mp c
        have c3 := bI_0.mp c3
        rw [hc] at c c3
        exact fin false (by rw [show metB P L R p d (r * 3 + i) = false from c, c3, Bool.and_false, Bool.or_false])
      · have c := bI_0.mp c
        have c3 := bI_n0.mp c3
        rw [hc] at c c2 c3
        exact fin true (by rw [show metB P L R p d (r * 3 + i) = false from c, decide_eq_true c2, c3]; rfl)
  have h9 := loop (rpN R r) 0 (by omega) hK
  rw [Nat.add_zero, ← e0] at h9
  exact hC _ _ _ _ _ _ h9
