def hasFr (P : PT) (p : Nat) (k o : Int32) : Int32 := foldF (fun x q => if P.2.2.1 q = k ∧ P.2.2.2.1 q = o then mnI x (P.2.2.2.2.1 q) else x) (p * 8) (pcN P p) 1000000

def tX14_hasFrom : List q_I := [(0, .ldc_w 321, 3, 0, 0), (3, .istore 4, 2, 0, 0), (5, .bipush 8, 2, 8, 0), (7, .iload_n 1, 1, 0, 0), (8, .imul, 1, 0, 0), (9, .istore 5, 2, 0, 0), (11, .iload 5, 2, 0, 0), (13, .bipush 8, 2, 8, 0), (15, .iload_n 1, 1, 0, 0), (16, .imul, 1, 0, 0), (17, .aload_n 0, 1, 0, 0), (18, .getfield 28, 3, 0, 0), (21, .iload_n 1, 1, 0, 0), (22, .iaload, 1, 0, 0), (23, .iadd, 1, 0, 0), (24, .if_icmp .ge 45, 3, 0, 69), (27, .aload_n 0, 1, 0, 0), (28, .getfield 31, 3, 0, 0), (31, .iload 5, 2, 0, 0), (33, .iaload, 1, 0, 0), (34, .iload_n 2, 1, 0, 0), (35, .if_icmp .ne 28, 3, 0, 63), (38, .aload_n 0, 1, 0, 0), (39, .getfield 34, 3, 0, 0), (42, .iload 5, 2, 0, 0), (44, .iaload, 1, 0, 0), (45, .iload_n 3, 1, 0, 0), (46, .if_icmp .ne 17, 3, 0, 63), (49, .iload 4, 2, 0, 0), (51, .aload_n 0, 1, 0, 0), (52, .getfield 37, 3, 0, 0), (55, .iload 5, 2, 0, 0), (57, .iaload, 1, 0, 0), (58, .invokestatic 451, 3, 0, 0), (61, .istore 4, 2, 0, 0), (63, .iinc 5 1, 3, 1, 0), (66, .goto (-55), 3, 0, 11), (69, .iload 4, 2, 0, 0), (71, .ireturn, 1, 0, 0)]
theorem tX14_hasFrom_ok : (tX14_hasFrom.all (q_okI cX14_hasFrom)) = true := by decide +kernel

abbrev fdX14_hasFrom : List (Nat ⊕ (Nat × Nat)) := [.inl 0, .inr (0, 7), .inr (0, 17), .inr (0, 18), .inr (0, 19), .inr (0, 20), .inr (0, 21), .inr (0, 22), .inr (0, 23), .inr (0, 26), .inr (0, 27), .inr (0, 28), .inr (0, 31), .inr (0, 32), .inr (0, 33), .inr (0, 34), .inr (0, 36), .inr (0, 37), .inr (0, 38), .inr (0, 39), .inr (0, 40), .inr (0, 41), .inr (0, 43), .inr (0, 44), .inr (0, 45), .inr (0, 46), .inr (0, 47), .inr (0, 48), .inr (0, 50), .inr (0, 51), .inr (0, 52), .inr (0, 4), .inr (31, 0), .inr (31, 1), .inr (31, 2), .inr (31, 3), .inr (31, 8), .inr (31, 9), .inr (31, 10), .inr (31, 11), .inr (31, 12), .inr (31, 13), .inr (31, 14), .inr (31, 15), .inr (31, 16), .inr (31, 17), .inr (31, 18), .inr (31, 19), .inr (31, 20), .inr (31, 21), .inr (31, 22), .inr (31, 23), .inr (31, 24), .inr (31, 25), .inr (31, 26), .inr (31, 27), .inr (31, 28)]
def spX14_hasFrom : q_P := fun a w K => ∃ (th : Int32) (tr : Int32) (wh : Int32) (fa : Int32) (ta : Nat) (sz : Int32) (ix : Int32) (so : Int32) (pl : Int32) (nu : Int32) (wd : Int64) (td : Int32) (mk : Int32) (mo : Int32) (tx : Nat → Int32) (P : PT) (D : DT) (ea : Nat → Int32) (pa : Nat → Int32) (co : Nat → Int32) (S : ST) (Cc : CT) (V : VT) (ba : Nat → Int32) (B : BT) (R : RT) (L : LT) (G : GT) (p : Nat) (k o : Int32), w = (modelW 0 (tk 0 5) (tk 0 6) th tr wh fa ta sz ix so pl nu wd td mk mo tx P D ea pa co S Cc V ba B R L G) ∧ a = [.ref 0, .int (nI p), .int k, .int o] ∧ pOk P ∧ p < P.2.2.2.2.2.2 ∧ K (.inl (some (.int (hasFr P p k o)))) (modelW 0 (tk 0 5) (tk 0 6) th tr wh fa ta sz ix so pl nu wd td mk mo tx P D ea pa co S Cc V ba B R L G)
abbrev csX14_hasFrom : q_S := (4, 14, 1, 6, 0, 0, fdX14_hasFrom, spX14_hasFrom)
def EX14_hasFrom : q_E := (tX14_hasFrom, [(11, [0, 1, 2, 3, 4, 5])], 6, flX14, [], [], [(321, 1000000)], [], [], [(451, 2)], 1, 0, 0, (some .int), [], [], 0, 0)
theorem okX14_hasFrom (l : Launch) : q_Eok l RX14 cX14_hasFrom EX14_hasFrom := ⟨tX14_hasFrom_ok, flX14_ok, q_nil, q_nil, List.forall_mem_cons.mpr ⟨q_G_i 1658 (by decide +kernel) rfl, q_nil⟩, q_nil, List.forall_mem_cons.mpr ⟨Or.inr (Or.inr ⟨rfl, q_G_i 1798 (by decide +kernel) rfl⟩), q_nil⟩, q_nil, (fun h => absurd h (by decide))⟩
set_option maxRecDepth 100000 in
set_option maxHeartbeats 4000000 in
theorem ctX14_hasFrom (l : Launch) : q_CT l yX14_hasFrom (.code yX14_hasFrom cX14_hasFrom 6 (some .int)) 1 0 0 spX14_hasFrom := by
  refine q_ct_of EX14_hasFrom (by decide +kernel) (okX14_hasFrom l) rfl rfl rfl rfl rfl q_nil (fun ci h => by cases h) rfl ?_
  intro a w K h
  obtain ⟨th, tr, wh, fa, ta, sz, ix, so, pl, nu, wd, td, mk, mo, tx, P, D, ea, pa, co, S, Cc, V, ba, B, R, L, G, p, k, o, rfl, rfl, ho, hp, hK⟩ := h
  obtain ⟨h1, h2, h3, h4, h5⟩ := pOk_ix ho hp
  have e0 : 8 * nI p = nI (p * 8) := nI_8m p
  have e : 8 * nI p + P.2.1 (nI p).toNatClampNeg = nI (p * 8 + pcN P p) := by rw [nI_8m, h2, h3, nI_add]
  refine ⟨Nat.le_of_ble_eq_true rfl, fun C hC => ?_⟩
  have loop : ∀ j i x, i + j = pcN P p → hasFr P p k o = foldF (fun x q => if P.2.2.1 q = k ∧ P.2.2.2.1 q = o then mnI x (P.2.2.2.2.1 q) else x) (p * 8 + i) j x → C 11 [(0, .ref 0), (1, .int (nI p)), (2, .int k), (3, .int o), (4, .int x), (5, .int (nI (p * 8 + i)))] [] (modelW 0 (tk 0 5) (tk 0 6) th tr wh fa ta sz ix so pl nu wd td mk mo tx P D ea pa co S Cc V ba B R L G) 0 0 := by
    intro j
    induction j with
    | zero =>
      intro i x hi he
      rw [he, foldF] at hK
      exact hC _ _ _ _ _ _ ⟨h1, And.intro (fun _ => hK) (fun z => absurd (by rw [e]; exact nI_le (by omega) (by omega)) z)⟩
    | succ j ih =>
      intro i x hi he
      rw [foldF] at he
      have hv : vp_in (nI (p * 8 + i)) 240 := vp_in_nI (by omega) (by omega)
      have hc : (nI (p * 8 + i)).toNatClampNeg = p * 8 + i := nI_clamp (by omega)
      have nx : ∀ x', (if P.2.2.1 (p * 8 + i) = k ∧ P.2.2.2.1 (p * 8 + i) = o then mnI x (P.2.2.2.2.1 (p * 8 + i)) else x) = x' → C 11 [(0, .ref 0), (1, .int (nI p)), (2, .int k), (3, .int o), (4, .int x'), (5, .int (nI (p * 8 + i) + 1))] [] (modelW 0 (tk 0 5) (tk 0 6) th tr wh fa ta sz ix so pl nu wd td mk mo tx P D ea pa co S Cc V ba B R L G) 0 0 := by
        intro x' ex
        rw [ex] at he
        have h9 := ih (i + 1) x' (by omega) (by rw [show p * 8 + (i + 1) = p * 8 + i + 1 by omega]; exact he)
        rw [nI_1]
        exact h9
      refine hC _ _ _ _ _ _ ⟨h1, And.intro (fun z => absurd z (by rw [e]; exact nI_ge (by omega) (by omega))) (fun _ => ⟨hv, And.intro (fun c => nx _ ?_) (fun c => ⟨hv, And.intro (fun c2 => nx _ ?_) (fun c2 => ⟨hv, nx _ ?_⟩)⟩)⟩)⟩
      · rw [hc] at c
        exact if_neg (fun z => c z.1)
      · rw [hc] at c2
        exact if_neg (fun z => c2 z.2)
      · rw [hc] at c c2
        rw [hc]
        exact if_pos ⟨c, c2⟩
  have h9 := loop (pcN P p) 0 1000000 (by omega) rfl
  rw [Nat.add_zero, ← e0] at h9
  exact hC _ _ _ _ _ _ h9
def lastN (P : PT) (p : Nat) (k o td : Int32) : Bool := anyF (fun q => decide (P.2.2.1 q = k) && (decide (P.2.2.2.1 q = o) && lastsP P td q)) (p * 8) (pcN P p)
def tX14_lastsNow : List q_I := [(0, .bipush 8, 2, 8, 0), (2, .iload_n 1, 1, 0, 0), (3, .imul, 1, 0, 0), (4, .istore 4, 2, 0, 0), (6, .iload 4, 2, 0, 0), (8, .bipush 8, 2, 8, 0), (10, .iload_n 1, 1, 0, 0), (11, .imul, 1, 0, 0), (12, .aload_n 0, 1, 0, 0), (13, .getfield 28, 3, 0, 0), (16, .iload_n 1, 1, 0, 0), (17, .iaload, 1, 0, 0), (18, .iadd, 1, 0, 0), (19, .if_icmp .ge 61, 3, 0, 80), (22, .aload_n 0, 1, 0, 0), (23, .getfield 31, 3, 0, 0), (26, .iload 4, 2, 0, 0), (28, .iaload, 1, 0, 0), (29, .iload_n 2, 1, 0, 0), (30, .if_icmp .ne 44, 3, 0, 74), (33, .aload_n 0, 1, 0, 0), (34, .getfield 34, 3, 0, 0), (37, .iload 4, 2, 0, 0), (39, .iaload, 1, 0, 0), (40, .iload_n 3, 1, 0, 0), (41, .if_icmp .ne 33, 3, 0, 74), (44, .aload_n 0, 1, 0, 0), (45, .getfield 243, 3, 0, 0), (48, .aload_n 0, 1, 0, 0), (49, .getfield 37, 3, 0, 0), (52, .iload 4, 2, 0, 0), (54, .iaload, 1, 0, 0), (55, .if_icmp .lt 19, 3, 0, 74), (58, .aload_n 0, 1, 0, 0), (59, .getfield 243, 3, 0, 0), (62, .aload_n 0, 1, 0, 0), (63, .getfield 40, 3, 0, 0), (66, .iload 4, 2, 0, 0), (68, .iaload, 1, 0, 0), (69, .if_icmp .gt 5, 3, 0, 74), (72, .iconst 1, 1, 1, 0), (73, .ireturn, 1, 0, 0), (74, .iinc 4 1, 3, 1, 0), (77, .goto (-71), 3, 0, 6), (80, .iconst 0, 1, 0, 0), (81, .ireturn, 1, 0, 0)]
theorem tX14_lastsNow_ok : (tX14_lastsNow.all (q_okI cX14_lastsNow)) = true := by decide +kernel

abbrev fdX14_lastsNow : List (Nat ⊕ (Nat × Nat)) := [.inl 0, .inr (0, 7), .inr (0, 17), .inr (0, 18), .inr (0, 19), .inr (0, 20), .inr (0, 21), .inr (0, 22), .inr (0, 23), .inr (0, 26), .inr (0, 27), .inr (0, 28), .inr (0, 31), .inr (0, 32), .inr (0, 33), .inr (0, 34), .inr (0, 36), .inr (0, 37), .inr (0, 38), .inr (0, 39), .inr (0, 40), .inr (0, 41), .inr (0, 43), .inr (0, 44), .inr (0, 45), .inr (0, 46), .inr (0, 47), .inr (0, 48), .inr (0, 50), .inr (0, 51), .inr (0, 52), .inr (0, 4), .inr (31, 0), .inr (31, 1), .inr (31, 2), .inr (31, 3), .inr (31, 8), .inr (31, 9), .inr (31, 10), .inr (31, 11), .inr (31, 12), .inr (31, 13), .inr (31, 14), .inr (31, 15), .inr (31, 16), .inr (31, 17), .inr (31, 18), .inr (31, 19), .inr (31, 20), .inr (31, 21), .inr (31, 22), .inr (31, 23), .inr (31, 24), .inr (31, 25), .inr (31, 26), .inr (31, 27), .inr (31, 28)]
def spX14_lastsNow : q_P := fun a w K => ∃ (th : Int32) (tr : Int32) (wh : Int32) (fa : Int32) (ta : Nat) (sz : Int32) (ix : Int32) (so : Int32) (pl : Int32) (nu : Int32) (wd : Int64) (td : Int32) (mk : Int32) (mo : Int32) (tx : Nat → Int32) (P : PT) (D : DT) (ea : Nat → Int32) (pa : Nat → Int32) (co : Nat → Int32) (S : ST) (Cc : CT) (V : VT) (ba : Nat → Int32) (B : BT) (R : RT) (L : LT) (G : GT) (p : Nat) (k o : Int32), w = (modelW 0 (tk 0 5) (tk 0 6) th tr wh fa ta sz ix so pl nu wd td mk mo tx P D ea pa co S Cc V ba B R L G) ∧ a = [.ref 0, .int (nI p), .int k, .int o] ∧ pOk P ∧ p < P.2.2.2.2.2.2 ∧ K (.inl (some (.int (bI (lastN P p k o td))))) (modelW 0 (tk 0 5) (tk 0 6) th tr wh fa ta sz ix so pl nu wd td mk mo tx P D ea pa co S Cc V ba B R L G)
abbrev csX14_lastsNow : q_S := (4, 14, 0, 5, 0, 0, fdX14_lastsNow, spX14_lastsNow)
def EX14_lastsNow : q_E := (tX14_lastsNow, [(6, [0, 1, 2, 3, 4])], 5, flX14, [], [], [], [], [], [], 0, 0, 0, (some .boolean), [], [], 0, 0)
theorem okX14_lastsNow (l : Launch) : q_Eok l RX14 cX14_lastsNow EX14_lastsNow := ⟨tX14_lastsNow_ok, flX14_ok, q_nil, q_nil, q_nil, q_nil, q_nil, q_nil, (fun h => absurd h (by decide))⟩
set_option maxRecDepth 100000 in
set_option maxHeartbeats 4000000 in
theorem ctX14_lastsNow (l : Launch) : q_CT l yX14_lastsNow (.code yX14_lastsNow cX14_lastsNow 5 (some .boolean)) 0 0 0 spX14_lastsNow := by
  refine q_ct_of EX14_lastsNow (by decide +kernel) (okX14_lastsNow l) rfl rfl rfl rfl rfl q_nil (fun ci h => by cases h) rfl ?_
  intro a w K h
  obtain ⟨th, tr, wh, fa, ta, sz, ix, so, pl, nu, wd, td, mk, mo, tx, P, D, ea, pa, co, S, Cc, V, ba, B, R, L, G, p, k, o, rfl, rfl, ho, hp, hK⟩ := h
  obtain ⟨h1, h2, h3, h4, h5⟩ := pOk_ix ho hp
  have e0 : 8 * nI p = nI (p * 8) := nI_8m p
  have e : 8 * nI p + P.2.1 (nI p).toNatClampNeg = nI (p * 8 + pcN P p) := by rw [nI_8m, h2, h3, nI_add]
  refine ⟨Nat.le_of_ble_eq_true rfl, fun C hC => ?_⟩
  have loop : ∀ j i, i + j = pcN P p → K (.inl (some (.int (bI (anyF (fun q => decide (P.2.2.1 q = k) && (decide (P.2.2.2.1 q = o) && lastsP P td q)) (p * 8 + i) j))))) (modelW 0 (tk 0 5) (tk 0 6) th tr wh fa ta sz ix so pl nu wd td mk mo tx P D ea pa co S Cc V ba B R L G) → C 6 [(0, .ref 0), (1, .int (nI p)), (2, .int k), (3, .int o), (4, .int (nI (p * 8 + i)))] [] (modelW 0 (tk 0 5) (tk 0 6) th tr wh fa ta sz ix so pl nu wd td mk mo tx P D ea pa co S Cc V ba B R L G) 0 0 := by
    intro j
    induction j with
    | zero =>
      intro i hi hK
      exact hC _ _ _ _ _ _ ⟨h1, And.intro (fun _ => ⟨rfl, hK⟩) (fun z => absurd (by rw [e]; exact nI_le (by omega) (by omega)) z)⟩
    | succ j ih =>
      intro i hi hK
      rw [anyF] at hK
      have hv : vp_in (nI (p * 8 + i)) 240 := vp_in_nI (by omega) (by omega)
      have hc : (nI (p * 8 + i)).toNatClampNeg = p * 8 + i := nI_clamp (by omega)
      have no : (decide (P.2.2.1 (p * 8 + i) = k) && (decide (P.2.2.2.1 (p * 8 + i) = o) && lastsP P td (p * 8 + i))) = false → C 6 [(0, .ref 0), (1, .int (nI p)), (2, .int k), (3, .int o), (4, .int (nI (p * 8 + i) + 1))] [] (modelW 0 (tk 0 5) (tk 0 6) th tr wh fa ta sz ix so pl nu wd td mk mo tx P D ea pa co S Cc V ba B R L G) 0 0 := by
        intro hf
        rw [hf, Bool.false_or] at hK
        have h9 := ih (i + 1) (by omega) (by rw [show p * 8 + (i + 1) = p * 8 + i + 1 by omega]; exact hK)
        rw [nI_1]
        exact h9
      refine hC _ _ _ _ _ _ ⟨h1, And.intro (fun z => absurd z (by rw [e]; exact nI_ge (by omega) (by omega))) (fun _ => ⟨hv, And.intro (fun c => no ?_) (fun c => ⟨hv, And.intro (fun c2 => no ?_) (fun c2 => ⟨hv, And.intro (fun c3 => no ?_) (fun c3 => ⟨hv, And.intro (fun c4 => no ?_) (fun c4 => ⟨rfl, ?_⟩)⟩)⟩)⟩)⟩)⟩
      · rw [hc] at c
        rw [decide_eq_false c, Bool.false_and]
      · rw [hc] at c2
        rw [decide_eq_false c2, Bool.false_and, Bool.and_false]
      · rw [hc] at c3
        rw [lastsP, decide_eq_false (Int32.not_le.mpr c3), Bool.false_and, Bool.and_false, Bool.and_false]
      · rw [hc] at c4
        rw [lastsP, decide_eq_false (Int32.not_le.mpr c4), Bool.and_false, Bool.and_false, Bool.and_false]
      · rw [hc] at c c2 c3 c4
        rw [lastsP, decide_eq_true c, decide_eq_true c2, decide_eq_true (Int32.not_lt.mp c3), decide_eq_true (Int32.not_lt.mp c4)] at hK
        exact hK
  have h9 := loop (pcN P p) 0 (by omega) hK
  rw [Nat.add_zero, ← e0] at h9
  exact hC _ _ _ _ _ _ h9
def mcas (G : GT) (P : PT) (c q : Nat) (td : Int32) (k : Nat) : Int32 :=
  if G.2.2.2.2.1 k = 2 then hasFr P c (G.2.2.2.2.2.1 k) (G.2.2.2.2.2.2.1 k)
  else if G.2.2.2.2.1 k = 0 then (if P.1 c = G.2.2.2.2.2.1 k then td else 1000000)
  else if lastN P q (G.2.2.2.2.2.1 k) (G.2.2.2.2.2.2.1 k) td = true then td else 1000000
def giL (G : GT) (P : PT) (g c q : Nat) (td : Int32) : Int32 := foldF (fun x k => mxI x (mcas G P c q td k)) (g * 3) (gcN G g) td
def giD (G : GT) (P : PT) (g c q : Nat) (td : Int32) : Int32 := if giL G P g c q td = 1000000 ∨ 999 < giL G P g c q td + G.2.2.1 g then 1000000 else giL G P g c q td + G.2.2.1 g
theorem gOk_i2 {G : GT} (h : gOk G) {g : Nat} (hg : g < G.2.2.2.2.2.2.2.2) : vp_in (nI g) 12 ∧ (nI g).toNatClampNeg = g ∧ G.2.2.2.1 g = nI (gcN G g) ∧ gcN G g ≤ 3 ∧ g < 12 := by
  obtain ⟨h1, h2⟩ := h
  obtain ⟨h3, h4⟩ := h2 g hg
  exact ⟨vp_in_nI (by omega) (by omega), nI_clamp (by omega), h3, h4, by omega⟩
def tX14_giftDay : List q_I := [(0, .aload_n 0, 1, 0, 0), (1, .getfield 243, 3, 0, 0), (4, .istore 4, 2, 0, 0), (6, .iconst 3, 1, 3, 0), (7, .iload_n 1, 1, 0, 0), (8, .imul, 1, 0, 0), (9, .istore 5, 2, 0, 0), (11, .iload 5, 2, 0, 0), (13, .iconst 3, 1, 3, 0), (14, .iload_n 1, 1, 0, 0), (15, .imul, 1, 0, 0), (16, .aload_n 0, 1, 0, 0), (17, .getfield 379, 3, 0, 0), (20, .getfield 338, 3, 0, 0), (23, .iload_n 1, 1, 0, 0), (24, .iaload, 1, 0, 0), (25, .iadd, 1, 0, 0), (26, .if_icmp .ge 119, 3, 0, 145), (29, .aload_n 0, 1, 0, 0), (30, .getfield 379, 3, 0, 0), (33, .getfield 353, 3, 0, 0), (36, .iload 5, 2, 0, 0), (38, .iaload, 1, 0, 0), (39, .istore 6, 2, 0, 0), (41, .aload_n 0, 1, 0, 0), (42, .getfield 379, 3, 0, 0), (45, .getfield 356, 3, 0, 0), (48, .iload 5, 2, 0, 0), (50, .iaload, 1, 0, 0), (51, .istore 7, 2, 0, 0), (53, .aload_n 0, 1, 0, 0), (54, .getfield 379, 3, 0, 0), (57, .getfield 350, 3, 0, 0), (60, .iload 5, 2, 0, 0), (62, .iaload, 1, 0, 0), (63, .iconst 2, 1, 2, 0), (64, .if_icmp .ne 15, 3, 0, 79), (67, .aload_n 0, 1, 0, 0), (68, .iload_n 2, 1, 0, 0), (69, .iload 6, 2, 0, 0), (71, .iload 7, 2, 0, 0), (73, .invokevirtual 474, 3, 0, 0), (76, .goto 52, 3, 0, 128), (79, .aload_n 0, 1, 0, 0), (80, .getfield 379, 3, 0, 0), (83, .getfield 350, 3, 0, 0), (86, .iload 5, 2, 0, 0), (88, .iaload, 1, 0, 0), (89, .ifCond .ne 17, 3, 0, 106), (92, .aload_n 0, 1, 0, 0), (93, .getfield 24, 3, 0, 0), (96, .iload_n 2, 1, 0, 0), (97, .iaload, 1, 0, 0), (98, .iload 6, 2, 0, 0), (100, .if_icmp .ne 25, 3, 0, 125), (103, .goto 15, 3, 0, 118), (106, .aload_n 0, 1, 0, 0), (107, .iload_n 3, 1, 0, 0), (108, .iload 6, 2, 0, 0), (110, .iload 7, 2, 0, 0), (112, .invokevirtual 477, 3, 0, 0), (115, .ifCond .eq 10, 3, 0, 125), (118, .aload_n 0, 1, 0, 0), (119, .getfield 243, 3, 0, 0), (122, .goto 6, 3, 0, 128), (125, .ldc_w 321, 3, 0, 0), (128, .istore 8, 2, 0, 0), (130, .iload 4, 2, 0, 0), (132, .iload 8, 2, 0, 0), (134, .invokestatic 480, 3, 0, 0), (137, .istore 4, 2, 0, 0), (139, .iinc 5 1, 3, 1, 0), (142, .goto (-131), 3, 0, 11), (145, .iload 4, 2, 0, 0), (147, .ldc_w 321, 3, 0, 0), (150, .if_icmp .eq 21, 3, 0, 171), (153, .iload 4, 2, 0, 0), (155, .aload_n 0, 1, 0, 0), (156, .getfield 379, 3, 0, 0), (159, .getfield 336, 3, 0, 0), (162, .iload_n 1, 1, 0, 0), (163, .iaload, 1, 0, 0), (164, .iadd, 1, 0, 0), (165, .sipush 999, 3, 999, 0), (168, .if_icmp .le 9, 3, 0, 177), (171, .ldc_w 321, 3, 0, 0), (174, .goto 15, 3, 0, 189), (177, .iload 4, 2, 0, 0), (179, .aload_n 0, 1, 0, 0), (180, .getfield 379, 3, 0, 0), (183, .getfield 336, 3, 0, 0), (186, .iload_n 1, 1, 0, 0), (187, .iaload, 1, 0, 0), (188, .iadd, 1, 0, 0), (189, .ireturn, 1, 0, 0)]
theorem tX14_giftDay_ok : (tX14_giftDay.all (q_okI cX14_giftDay)) = true := by decide +kernel

abbrev fdX14_giftDay : List (Nat ⊕ (Nat × Nat)) := [.inl 0, .inr (0, 7), .inr (0, 17), .inr (0, 18), .inr (0, 19), .inr (0, 20), .inr (0, 21), .inr (0, 22), .inr (0, 23), .inr (0, 26), .inr (0, 27), .inr (0, 28), .inr (0, 31), .inr (0, 32), .inr (0, 33), .inr (0, 34), .inr (0, 36), .inr (0, 37), .inr (0, 38), .inr (0, 39), .inr (0, 40), .inr (0, 41), .inr (0, 43), .inr (0, 44), .inr (0, 45), .inr (0, 46), .inr (0, 47), .inr (0, 48), .inr (0, 50), .inr (0, 51), .inr (0, 52), .inr (0, 4), .inr (31, 0), .inr (31, 1), .inr (31, 2), .inr (31, 3), .inr (31, 8), .inr (31, 9), .inr (31, 10), .inr (31, 11), .inr (31, 12), .inr (31, 13), .inr (31, 14), .inr (31, 15), .inr (31, 16), .inr (31, 17), .inr (31, 18), .inr (31, 19), .inr (31, 20), .inr (31, 21), .inr (31, 22), .inr (31, 23), .inr (31, 24), .inr (31, 25), .inr (31, 26), .inr (31, 27), .inr (31, 28)]
def spX14_giftDay : q_P := fun a w K => ∃ (th : Int32) (tr : Int32) (wh : Int32) (fa : Int32) (ta : Nat) (sz : Int32) (ix : Int32) (so : Int32) (pl : Int32) (nu : Int32) (wd : Int64) (td : Int32) (mk : Int32) (mo : Int32) (tx : Nat → Int32) (P : PT) (D : DT) (ea : Nat → Int32) (pa : Nat → Int32) (co : Nat → Int32) (S : ST) (Cc : CT) (V : VT) (ba : Nat → Int32) (B : BT) (R : RT) (L : LT) (G : GT) (g c q : Nat), w = (modelW 0 (tk 0 5) (tk 0 6) th tr wh fa ta sz ix so pl nu wd td mk mo tx P D ea pa co S Cc V ba B R L G) ∧ a = [.ref 0, .int (nI g), .int (nI c), .int (nI q)] ∧ gOk G ∧ g < G.2.2.2.2.2.2.2.2 ∧ pOk P ∧ c < P.2.2.2.2.2.2 ∧ q < P.2.2.2.2.2.2 ∧ K (.inl (some (.int (giD G P g c q td)))) (modelW 0 (tk 0 5) (tk 0 6) th tr wh fa ta sz ix so pl nu wd td mk mo tx P D ea pa co S Cc V ba B R L G)
abbrev csX14_giftDay : q_S := (4, 14, 2, 9, 0, 0, fdX14_giftDay, spX14_giftDay)
theorem coX14_474 (l : Launch) : q_CO l RX14 474 csX14_hasFrom := ⟨yX14_hasFrom, cX14_hasFrom, (some .int), 3, ⟨by decide +kernel, by decide +kernel, by decide +kernel⟩, q_G_i 17 (by decide +kernel) rfl, Or.inl ⟨by decide, rfl, rfl, q_G_i 1850 (by decide +kernel) rfl, q_G_i 1852 (by decide +kernel) rfl, q_G_s (n := 53) 86 (by decide +kernel), Or.inl ⟨q_G_i 1853 (by decide +kernel) rfl, ctX14_hasFrom l⟩⟩⟩
theorem coX14_477 (l : Launch) : q_CO l RX14 477 csX14_lastsNow := ⟨yX14_lastsNow, cX14_lastsNow, (some .boolean), 3, ⟨by decide +kernel, by decide +kernel, by decide +kernel⟩, q_G_i 17 (by decide +kernel) rfl, Or.inl ⟨by decide, rfl, rfl, q_G_i 1854 (by decide +kernel) rfl, q_G_i 1856 (by decide +kernel) rfl, q_G_s (n := 53) 87 (by decide +kernel), Or.inl ⟨q_G_i 1857 (by decide +kernel) rfl, ctX14_lastsNow l⟩⟩⟩
def EX14_giftDay : q_E := (tX14_giftDay, [(11, [0, 1, 2, 3, 4, 5]), (128, [0, 1, 2, 3, 4, 5])], 9, flX14, [(474, csX14_hasFrom), (477, csX14_lastsNow)], [], [(321, 1000000)], [], [], [(480, 1)], 2, 0, 0, (some .int), [], [], 0, 0)
theorem okX14_giftDay (l : Launch) : q_Eok l RX14 cX14_giftDay EX14_giftDay := ⟨tX14_giftDay_ok, flX14_ok, List.forall_mem_cons.mpr ⟨(coX14_474 l), List.forall_mem_cons.mpr ⟨(coX14_477 l), q_nil⟩⟩, q_nil, List.forall_mem_cons.mpr ⟨q_G_i 1658 (by decide +kernel) rfl, q_nil⟩, q_nil, List.forall_mem_cons.mpr ⟨Or.inr (Or.inl ⟨rfl, q_G_i 1858 (by decide +kernel) rfl⟩), q_nil⟩, q_nil, (fun h => absurd h (by decide))⟩
set_option maxRecDepth 100000 in
set_option maxHeartbeats 4000000 in
theorem ctX14_giftDay (l : Launch) : q_CT l yX14_giftDay (.code yX14_giftDay cX14_giftDay 9 (some .int)) 2 0 0 spX14_giftDay := by
  refine q_ct_of EX14_giftDay (by decide +kernel) (okX14_giftDay l) rfl rfl rfl rfl rfl q_nil (fun ci h => by cases h) rfl ?_
  intro a w K h
  obtain ⟨th, tr, wh, fa, ta, sz, ix, so, pl, nu, wd, td, mk, mo, tx, P, D, ea, pa, co, S, Cc, V, ba, B, R, L, G, g, c, q, rfl, rfl, hg, hgn, ho, hcn, hqn, hK⟩ := h
  obtain ⟨h1, h2, h3, h4, h5⟩ := gOk_i2 hg hgn
  have hc30 := ho.1
  have e0 : 3 * nI g = nI (g * 3) := nI_3m g
  have e : 3 * nI g + G.2.2.2.1 (nI g).toNatClampNeg = nI (g * 3 + gcN G g) := by rw [nI_3m, h2, h3, nI_add]
  have hvc : vp_in (nI c) 30 := vp_in_nI (by omega) (by omega)
  have hcc : (nI c).toNatClampNeg = c := nI_clamp (by omega)
  refine ⟨Nat.le_of_ble_eq_true rfl, fun C hC => ?_⟩
  have loop : ∀ j i x, i + j = gcN G g → giL G P g c q td = foldF (fun x k => mxI x (mcas G P c q td k)) (g * 3 + i) j x → C 11 [(0, .ref 0), (1, .int (nI g)), (2, .int (nI c)), (3, .int (nI q)), (4, .int x), (5, .int (nI (g * 3 + i)))] [] (modelW 0 (tk 0 5) (tk 0 6) th tr wh fa ta sz ix so pl nu wd td mk mo tx P D ea pa co S Cc V ba B R L G) 0 0 := by
    intro j
    induction j with
    | zero =>
      intro i x hi he
      rw [giD, he, foldF] at hK
      refine hC _ _ _ _ _ _ ⟨h1, And.intro (fun _ => And.intro (fun d1 => ?_) (fun d1 => ⟨h1, And.intro (fun d2 => ⟨h1, ?_⟩) (fun d2 => ?_)⟩)) (fun z => absurd (by rw [e]; exact nI_le (by omega) (by omega)) z)⟩
      · rw [if_pos (Or.inl d1)] at hK
        exact hK
      · rw [h2] at d2
        rw [if_neg (fun z => z.elim d1 (Int32.not_lt.mpr d2))] at hK
        rw [h2]; exact hK
      · rw [h2] at d2
        rw [if_pos (Or.inr (Int32.not_le.mp d2))] at hK
        exact hK
    | succ j ih =>
      intro i x hi he
      rw [foldF] at he
      have hv : vp_in (nI (g * 3 + i)) 36 := vp_in_nI (by omega) (by omega)
      have hc : (nI (g * 3 + i)).toNatClampNeg = g * 3 + i := nI_clamp (by omega)
      have fin : ∀ v, v = mcas G P c q td (g * 3 + i) → C 128 [(0, .ref 0), (1, .int (nI g)), (2, .int (nI c)), (3, .int (nI q)), (4, .int x), (5, .int (nI (g * 3 + i)))] [.int v] (modelW 0 (tk 0 5) (tk 0 6) th tr wh fa ta sz ix so pl nu wd td mk mo tx P D ea pa co S Cc V ba B R L G) 0 0 := by
        intro v hv9
        rw [← hv9] at he
        have h9 := ih (i + 1) (mxI x v) (by omega) (by rw [show g * 3 + (i + 1) = g * 3 + i + 1 by omega]; exact he)
        rw [show g * 3 + (i + 1) = g * 3 + i + 1 by omega, ← nI_1] at h9
        exact hC _ _ _ _ _ _ h9
      refine hC _ _ _ _ _ _ ⟨h1, And.intro (fun z => absurd z (by rw [e]; exact nI_ge (by omega) (by omega))) (fun _ => ⟨hv, hv, hv, And.intro (fun d1 => ⟨hv, And.intro (fun d2 => ⟨_, _, _, _, _, _, _, _, _, _, _, _, _, _, _, _, _, _, _, _, _, _, _, _, _, _, _, _, q, _, _, rfl, rfl, ho, hqn, And.intro (fun d3 => fin _ ?_) (fun d3 => fin _ ?_)⟩) (fun d2 => ⟨hvc, And.intro (fun d3 => fin _ ?_) (fun d3 => fin _ ?_)⟩)⟩) (fun d1 => ⟨_, _, _, _, _, _, _, _, _, _, _, _, _, _, _, _, _, _, _, _, _, _, _, _, _, _, _, _, c, _, _, rfl, rfl, ho, hcn, fin _ ?_⟩)⟩)⟩
      · rw [hc] at d1 d2
        have d3 := bI_0.mp d3
        rw [hc] at d3
        unfold mcas
        rw [if_neg d1, if_neg d2, if_neg (by rw [d3]; decide)]
      · rw [hc] at d1 d2
        have d3 := bI_n0.mp d3
        rw [hc] at d3
        unfold mcas
        rw [if_neg d1, if_neg d2, if_pos d3]
      · rw [hc] at d1 d2 d3
        rw [hcc] at d3
        unfold mcas
        rw [if_neg d1, if_pos d2, if_neg d3]
      · rw [hc] at d1 d2 d3
        rw [hcc] at d3
        unfold mcas
        rw [if_neg d1, if_pos d2, if_pos d3]
      · rw [hc] at d1
        rw [hc]
        unfold mcas
        rw [if_pos d1]
  have h9 := loop (gcN G g) 0 td (by omega) rfl
  rw [Nat.add_zero, ← e0] at h9
  exact hC _ _ _ _ _ _ h9
def gsM (G : GT) (P : PT) (lk : Int32) (c q : Nat) (td : Int32) : Nat → Int32
  | 0 => -1
  | i + 1 => if (lk >>> (nI i &&& 31)) &&& 1 = 1 ∨ giD G P i c q td = 1000000 then gsM G P lk c q td i else if gsM G P lk c q td i = -1 ∨ giD G P i c q td < giD G P (gsM G P lk c q td i).toNatClampNeg c q td then nI i else gsM G P lk c q td i
theorem gsM_lt (G : GT) (P : PT) (lk : Int32) (c q : Nat) (td : Int32) : ∀ n, gsM G P lk c q td n = -1 ∨ ∃ s, gsM G P lk c q td n = nI s ∧ s < n
  | 0 => Or.inl rfl
  | n + 1 => by
    rw [gsM]
    have ih := gsM_lt G P lk c q td n
    split
    · rcases ih with h | ⟨s, h, hs⟩
      · exact Or.inl h
      · exact Or.inr ⟨s, h, by omega⟩
    · split
      · exact Or.inr ⟨n, rfl, by omega⟩
      · rcases ih with h | ⟨s, h, hs⟩
        · exact Or.inl h
        · exact Or.inr ⟨s, h, by omega⟩
def chP (G : GT) (P : PT) (c q : Nat) (td : Int32) (s : Nat) : PT := if hasFr P c (G.1 s) (G.2.1 s) ≤ giD G P s c q td ∨ pcN P c = 8 then P else peopleGive P c (G.1 s) (G.2.1 s) (giD G P s c q td) 999
def chM (G : GT) (c q : Nat) (td : Int32) : Nat → PT → Int32 → PT
  | 0, P, _ => P
  | k + 1, P, lk => if gsM G P lk c q td G.2.2.2.2.2.2.2.2 = -1 then P else chM G c q td k (chP G P c q td (gsM G P lk c q td G.2.2.2.2.2.2.2.2).toNatClampNeg) (lk ||| (1 : Int32) <<< (gsM G P lk c q td G.2.2.2.2.2.2.2.2 &&& 31))
def tX14_child : List q_I := [(0, .aload_n 0, 1, 0, 0), (1, .iconst 0, 1, 0, 0), (2, .putfield 123, 3, 0, 0), (5, .aload_n 0, 1, 0, 0), (6, .iload_n 1, 1, 0, 0), (7, .invokevirtual 417, 3, 0, 0), (10, .ifCond .ne 9, 3, 0, 19), (13, .aload_n 0, 1, 0, 0), (14, .iconst 1, 1, 1, 0), (15, .invokevirtual 365, 3, 0, 0), (18, .ireturn, 1, 0, 0), (19, .aload_n 0, 1, 0, 0), (20, .getfield 382, 3, 0, 0), (23, .bipush 30, 2, 30, 0), (25, .if_icmp .ne 9, 3, 0, 34), (28, .aload_n 0, 1, 0, 0), (29, .iconst 3, 1, 3, 0), (30, .invokevirtual 365, 3, 0, 0), (33, .ireturn, 1, 0, 0), (34, .aload_n 0, 1, 0, 0), (35, .aload_n 0, 1, 0, 0), (36, .getfield 24, 3, 0, 0), (39, .iload_n 1, 1, 0, 0), (40, .iaload, 1, 0, 0), (41, .invokevirtual 414, 3, 0, 0), (44, .istore_n 2, 1, 0, 0), (45, .iconst 0, 1, 0, 0), (46, .istore_n 3, 1, 0, 0), (47, .iconst 0, 1, 0, 0), (48, .istore 4, 2, 0, 0), (50, .iload 4, 2, 0, 0), (52, .aload_n 0, 1, 0, 0), (53, .getfield 379, 3, 0, 0), (56, .getfield 325, 3, 0, 0), (59, .if_icmp .ge 189, 3, 0, 248), (62, .iconst (-1), 1, (-1), 0), (63, .istore 5, 2, 0, 0), (65, .iconst 0, 1, 0, 0), (66, .istore 6, 2, 0, 0), (68, .iload 6, 2, 0, 0), (70, .aload_n 0, 1, 0, 0), (71, .getfield 379, 3, 0, 0), (74, .getfield 325, 3, 0, 0), (77, .if_icmp .ge 65, 3, 0, 142), (80, .iload_n 3, 1, 0, 0), (81, .iload 6, 2, 0, 0), (83, .ishr, 1, 0, 0), (84, .iconst 1, 1, 1, 0), (85, .iand, 1, 0, 0), (86, .iconst 1, 1, 1, 0), (87, .if_icmp .eq 49, 3, 0, 136), (90, .aload_n 0, 1, 0, 0), (91, .iload 6, 2, 0, 0), (93, .iload_n 2, 1, 0, 0), (94, .iload_n 1, 1, 0, 0), (95, .invokevirtual 483, 3, 0, 0), (98, .ldc_w 321, 3, 0, 0), (101, .if_icmp .ne 6, 3, 0, 107), (104, .goto 32, 3, 0, 136), (107, .iload 5, 2, 0, 0), (109, .iconst (-1), 1, (-1), 0), (110, .if_icmp .eq 22, 3, 0, 132), (113, .aload_n 0, 1, 0, 0), (114, .iload 6, 2, 0, 0), (116, .iload_n 2, 1, 0, 0), (117, .iload_n 1, 1, 0, 0), (118, .invokevirtual 483, 3, 0, 0), (121, .aload_n 0, 1, 0, 0), (122, .iload 5, 2, 0, 0), (124, .iload_n 2, 1, 0, 0), (125, .iload_n 1, 1, 0, 0), (126, .invokevirtual 483, 3, 0, 0), (129, .if_icmp .ge 7, 3, 0, 136), (132, .iload 6, 2, 0, 0), (134, .istore 5, 2, 0, 0), (136, .iinc 6 1, 3, 1, 0), (139, .goto (-71), 3, 0, 68), (142, .iload 5, 2, 0, 0), (144, .iconst (-1), 1, (-1), 0), (145, .if_icmp .ne 6, 3, 0, 151), (148, .goto 100, 3, 0, 248), (151, .iload_n 3, 1, 0, 0), (152, .iconst 1, 1, 1, 0), (153, .iload 5, 2, 0, 0), (155, .ishl, 1, 0, 0), (156, .ior, 1, 0, 0), (157, .istore_n 3, 1, 0, 0), (158, .aload_n 0, 1, 0, 0), (159, .iload 5, 2, 0, 0), (161, .iload_n 2, 1, 0, 0), (162, .iload_n 1, 1, 0, 0), (163, .invokevirtual 483, 3, 0, 0), (166, .istore 6, 2, 0, 0), (168, .aload_n 0, 1, 0, 0), (169, .iload_n 2, 1, 0, 0), (170, .aload_n 0, 1, 0, 0), (171, .getfield 379, 3, 0, 0), (174, .getfield 328, 3, 0, 0), (177, .iload 5, 2, 0, 0), (179, .iaload, 1, 0, 0), (180, .aload_n 0, 1, 0, 0), (181, .getfield 379, 3, 0, 0), (184, .getfield 331, 3, 0, 0), (187, .iload 5, 2, 0, 0), (189, .iaload, 1, 0, 0), (190, .invokevirtual 474, 3, 0, 0), (193, .iload 6, 2, 0, 0), (195, .if_icmp .le 47, 3, 0, 242), (198, .aload_n 0, 1, 0, 0), (199, .getfield 28, 3, 0, 0), (202, .iload_n 2, 1, 0, 0), (203, .iaload, 1, 0, 0), (204, .bipush 8, 2, 8, 0), (206, .if_icmp .ne 6, 3, 0, 212), (209, .goto 33, 3, 0, 242), (212, .aload_n 0, 1, 0, 0), (213, .iload_n 2, 1, 0, 0), (214, .aload_n 0, 1, 0, 0), (215, .getfield 379, 3, 0, 0), (218, .getfield 328, 3, 0, 0), (221, .iload 5, 2, 0, 0), (223, .iaload, 1, 0, 0), (224, .aload_n 0, 1, 0, 0), (225, .getfield 379, 3, 0, 0), (228, .getfield 331, 3, 0, 0), (231, .iload 5, 2, 0, 0), (233, .iaload, 1, 0, 0), (234, .iload 6, 2, 0, 0), (236, .sipush 999, 3, 999, 0), (239, .invokevirtual 420, 3, 0, 0), (242, .iinc 4 1, 3, 1, 0), (245, .goto (-195), 3, 0, 50), (248, .aload_n 0, 1, 0, 0), (249, .iload_n 2, 1, 0, 0), (250, .invokevirtual 397, 3, 0, 0), (253, .ireturn, 1, 0, 0)]
theorem tX14_child_ok : (tX14_child.all (q_okI cX14_child)) = true := by decide +kernel

abbrev fdX14_child : List (Nat ⊕ (Nat × Nat)) := [.inl 0, .inr (0, 7), .inr (0, 17), .inr (0, 18), .inr (0, 19), .inr (0, 20), .inr (0, 21), .inr (0, 22), .inr (0, 23), .inr (0, 26), .inr (0, 27), .inr (0, 28), .inr (0, 31), .inr (0, 32), .inr (0, 33), .inr (0, 34), .inr (0, 36), .inr (0, 37), .inr (0, 38), .inr (0, 39), .inr (0, 40), .inr (0, 41), .inr (0, 43), .inr (0, 44), .inr (0, 45), .inr (0, 46), .inr (0, 47), .inr (0, 48), .inr (0, 50), .inr (0, 51), .inr (0, 52), .inr (0, 4), .inr (31, 0), .inr (31, 1), .inr (31, 2), .inr (31, 3), .inr (31, 8), .inr (31, 9), .inr (31, 10), .inr (31, 11), .inr (31, 12), .inr (31, 13), .inr (31, 14), .inr (31, 15), .inr (31, 16), .inr (31, 17), .inr (31, 18), .inr (31, 19), .inr (31, 20), .inr (31, 21), .inr (31, 22), .inr (31, 23), .inr (31, 24), .inr (31, 25), .inr (31, 26), .inr (31, 27), .inr (31, 28)]
def spX14_child : q_P := fun a w K => ∃ (th : Int32) (tr : Int32) (wh : Int32) (fa : Int32) (ta : Nat) (sz : Int32) (ix : Int32) (so : Int32) (pl : Int32) (nu : Int32) (wd : Int64) (td : Int32) (mk : Int32) (mo : Int32) (tx : Nat → Int32) (P : PT) (D : DT) (ea : Nat → Int32) (pa : Nat → Int32) (co : Nat → Int32) (S : ST) (Cc : CT) (V : VT) (ba : Nat → Int32) (B : BT) (R : RT) (L : LT) (G : GT) (p : Int32), w = (modelW 0 (tk 0 5) (tk 0 6) th tr wh fa ta sz ix so pl nu wd td mk mo tx P D ea pa co S Cc V ba B R L G) ∧ a = [.ref 0, .int p] ∧ pOk P ∧ gOk G ∧ (if perB P p = true then (if P.2.2.2.2.2.2 < 30 then K (.inl (some (.int (nI P.2.2.2.2.2.2)))) (modelW 0 (tk 0 5) (tk 0 6) (0) (0) (-1) fa ta sz ix so pl nu wd td mk mo tx (chM G P.2.2.2.2.2.2 p.toNatClampNeg td G.2.2.2.2.2.2.2.2 (peopleAdd P (P.1 p.toNatClampNeg)) 0) ((D.1, D.2.1, vp_updL D.2.2.1 P.2.2.2.2.2.2 0, D.2.2.2)) ea pa co S Cc V ba B R L G) else K (.inl (some (.int (-1)))) (modelW 0 (tk 0 5) (tk 0 6) (0) (3) (-1) fa ta sz ix so pl nu wd td mk mo tx P D ea pa co S Cc V ba B R L G)) else K (.inl (some (.int (-1)))) (modelW 0 (tk 0 5) (tk 0 6) (0) (1) (-1) fa ta sz ix so pl nu wd td mk mo tx P D ea pa co S Cc V ba B R L G))
abbrev csX14_child : q_S := (2, 14, 3, 7, 0, 0, fdX14_child, spX14_child)
theorem coX14_483 (l : Launch) : q_CO l RX14 483 csX14_giftDay := ⟨yX14_giftDay, cX14_giftDay, (some .int), 3, ⟨by decide +kernel, by decide +kernel, by decide +kernel⟩, q_G_i 17 (by decide +kernel) rfl, Or.inl ⟨by decide, rfl, rfl, q_G_i 1846 (by decide +kernel) rfl, q_G_i 1848 (by decide +kernel) rfl, q_G_s (n := 53) 85 (by decide +kernel), Or.inl ⟨q_G_i 1849 (by decide +kernel) rfl, ctX14_giftDay l⟩⟩⟩
def EX14_child : q_E := (tX14_child, [(50, [0, 1, 2, 3, 4]), (68, [0, 1, 2, 3, 4, 5, 6])], 7, flX14, [(417, csX14_isPerson), (365, csX14_refused), (414, csX14_comes), (483, csX14_giftDay), (474, csX14_hasFrom), (420, csX14_gives), (397, csX14_done)], [], [(321, 1000000)], [], [], [], 3, 0, 0, (some .int), [], [], 0, 0)
theorem okX14_child (l : Launch) : q_Eok l RX14 cX14_child EX14_child := ⟨tX14_child_ok, flX14_ok, List.forall_mem_cons.mpr ⟨(coX14_417 l), List.forall_mem_cons.mpr ⟨(coX14_365 l), List.forall_mem_cons.mpr ⟨(coX14_414 l), List.forall_mem_cons.mpr ⟨(coX14_483 l), List.forall_mem_cons.mpr ⟨(coX14_474 l), List.forall_mem_cons.mpr ⟨(coX14_420 l), List.forall_mem_cons.mpr ⟨(coX14_397 l), q_nil⟩⟩⟩⟩⟩⟩⟩, q_nil, List.forall_mem_cons.mpr ⟨q_G_i 1658 (by decide +kernel) rfl, q_nil⟩, q_nil, q_nil, q_nil, (fun h => absurd h (by decide))⟩
set_option maxRecDepth 100000 in
set_option maxHeartbeats 4000000 in
theorem ctX14_child (l : Launch) : q_CT l yX14_child (.code yX14_child cX14_child 7 (some .int)) 3 0 0 spX14_child := by
  refine q_ct_of EX14_child (by decide +kernel) (okX14_child l) rfl rfl rfl rfl rfl q_nil (fun ci h => by cases h) rfl ?_
  intro a w K h
  obtain ⟨th, tr, wh, fa, ta, sz, ix, so, pl, nu, wd, td, mk, mo, tx, P, D, ea, pa, co, S, Cc, V, ba, B, R, L, G, p, rfl, rfl, ho, hg, hK⟩ := h
  refine ⟨Nat.le_of_ble_eq_true rfl, fun C hC => hC _ _ _ _ _ _ ?_⟩
  refine ⟨_, _, _, _, _, _, _, _, _, _, _, _, _, _, _, _, _, _, _, _, _, _, _, p, rfl, rfl, And.intro (fun c => ?_) (fun c => ?_)⟩
  rotate_left
  · have c : perB P p = false := bI_0.mp c
    rw [if_neg (by rw [c]; decide)] at hK
    exact ⟨_, _, _, _, _, _, _, _, _, _, _, _, _, _, _, _, _, _, _, _, _, _, _, _, rfl, rfl, hK⟩
  have c : perB P p = true := bI_n0.mp c
  rw [if_pos c] at hK
  refine And.intro (fun c2 => ?_) (fun c2 => ?_)
  rotate_left
  · rw [if_neg (c := P.2.2.2.2.2.2 < 30) (fun z => nI_ne (b := 30) (by omega) (by omega) (by omega) c2)] at hK
    exact ⟨_, _, _, _, _, _, _, _, _, _, _, _, _, _, _, _, _, _, _, _, _, _, _, _, rfl, rfl, hK⟩
  have hlt : P.2.2.2.2.2.2 < 30 := by
    rcases Nat.lt_or_ge P.2.2.2.2.2.2 30 with z | z
    · exact z
    · exact absurd (show nI P.2.2.2.2.2.2 = nI 30 by rw [Nat.le_antisymm ho.1 z]) c2
  rw [if_pos hlt] at hK
  obtain ⟨p, rfl, hp, hcp⟩ := perI ho c
  rw [hcp] at hK
  refine ⟨vp_in_nI (by omega) (by omega), _, _, _, _, _, _, _, _, _, _, _, _, _, _, _, _, _, _, _, _, _, _, _, _, _, _, _, _, _, rfl, rfl, hlt, ?_⟩
  rw [hcp]
  have hgn := hg.1
  have outer : ∀ k t (Q : PT) (lk : Int32), t + k = G.2.2.2.2.2.2.2.2 → pOk Q → Q.2.2.2.2.2.2 = P.2.2.2.2.2.2 + 1 → K (.inl (some (.int (nI P.2.2.2.2.2.2)))) (modelW 0 (tk 0 5) (tk 0 6) (0) (0) (-1) fa ta sz ix so pl nu wd td mk mo tx (chM G P.2.2.2.2.2.2 p td k Q lk) ((D.1, D.2.1, vp_updL D.2.2.1 P.2.2.2.2.2.2 0, D.2.2.2)) ea pa co S Cc V ba B R L G) → C 50 [(0, .ref 0), (1, .int (nI p)), (2, .int (nI P.2.2.2.2.2.2)), (3, .int lk), (4, .int (nI t))] [] (modelW 0 (tk 0 5) (tk 0 6) (0) tr wh fa ta sz ix so pl nu wd td mk mo tx (Q) ((D.1, D.2.1, vp_updL D.2.2.1 P.2.2.2.2.2.2 0, D.2.2.2)) ea pa co S Cc V ba B R L G) 0 0 := by
    intro k
    induction k with
    | zero =>
      intro t Q lk ht hQ hQn hK
      exact hC _ _ _ _ _ _ (And.intro (fun _ => ⟨_, _, _, _, _, _, _, _, _, _, _, _, _, _, _, _, _, _, _, _, _, _, _, _, rfl, rfl, hK⟩) (fun z => absurd (nI_le (by omega) (by omega)) z))
    | succ k ih =>
      intro t Q lk ht hQ hQn hK
      rw [chM] at hK
      have hcq : P.2.2.2.2.2.2 < Q.2.2.2.2.2.2 := by omega
      have hpq : p < Q.2.2.2.2.2.2 := by omega
      have sel : ∀ m i, i + m = G.2.2.2.2.2.2.2.2 → C 68 [(0, .ref 0), (1, .int (nI p)), (2, .int (nI P.2.2.2.2.2.2)), (3, .int lk), (4, .int (nI t)), (5, .int (gsM G Q lk P.2.2.2.2.2.2 p td i)), (6, .int (nI i))] [] (modelW 0 (tk 0 5) (tk 0 6) (0) tr wh fa ta sz ix so pl nu wd td mk mo tx (Q) ((D.1, D.2.1, vp_updL D.2.2.1 P.2.2.2.2.2.2 0, D.2.2.2)) ea pa co S Cc V ba B R L G) 0 0 := by
        intro m
        induction m with
        | zero =>
          intro i hi
          have hi : i = G.2.2.2.2.2.2.2.2 := hi
          subst hi
          refine hC _ _ _ _ _ _ (And.intro (fun _ => And.intro (fun c3 => ?_) (fun c3 => ?_)) (fun z => absurd (Int32.le_refl _) z))
          · rw [if_neg c3] at hK
            obtain ⟨s, hs, hsn⟩ := (gsM_lt G Q lk P.2.2.2.2.2.2 p td G.2.2.2.2.2.2.2.2).resolve_left c3
            obtain ⟨g1, g2, g3, g4, g5⟩ := gOk_i2 hg hsn
            rw [hs, g2] at hK
            rw [hs]
            obtain ⟨q1, q2, q3, q4, q5⟩ := pOk_ix hQ hcq
            have nx : ∀ Q', chP G Q P.2.2.2.2.2.2 p td s = Q' → pOk Q' → Q'.2.2.2.2.2.2 = P.2.2.2.2.2.2 + 1 → C 50 [(0, .ref 0), (1, .int (nI p)), (2, .int (nI P.2.2.2.2.2.2)), (3, .int (lk ||| (1 : Int32) <<< (nI s &&& 31))), (4, .int (nI t + 1))] [] (modelW 0 (tk 0 5) (tk 0 6) (0) tr wh fa ta sz ix so pl nu wd td mk mo tx (Q') ((D.1, D.2.1, vp_updL D.2.2.1 P.2.2.2.2.2.2 0, D.2.2.2)) ea pa co S Cc V ba B R L G) 0 0 := by
              intro Q' e hQ' hn'
              rw [e] at hK
              have h9 := ih (t + 1) Q' _ (by omega) hQ' hn' hK
              rw [← nI_1] at h9
              exact h9
            refine ⟨_, _, _, _, _, _, _, _, _, _, _, _, _, _, _, _, _, _, _, _, _, _, _, _, _, _, _, _, s, P.2.2.2.2.2.2, p, rfl, rfl, hg, hsn, hQ, hcq, hpq, g1, g1, _, _, _, _, _, _, _, _, _, _, _, _, _, _, _, _, _, _, _, _, _, _, _, _, _, _, _, _, P.2.2.2.2.2.2, _, _, rfl, rfl, hQ, hcq, And.intro (fun c4 => ?_) (fun c4 => ⟨q1, And.intro (fun c5 => ⟨g1, g1, _, _, _, _, _, _, _, _, _, _, _, _, _, _, _, _, _, _, _, _, _, _, _, _, _, _, _, _, P.2.2.2.2.2.2, _, _, _, _, rfl, rfl, hQ, hcq, ?_⟩) (fun c5 => ?_)⟩)⟩
            · rw [g2] at c4
              exact nx Q (if_pos (Or.inl c4)) hQ hQn
            · rw [g2] at c4
              rw [q2, q3] at c5
              have h8 : pcN Q P.2.2.2.2.2.2 < 8 := by
                rcases Nat.lt_or_ge (pcN Q P.2.2.2.2.2.2) 8 with z | z
                · exact z
                · exact absurd (show nI (pcN Q P.2.2.2.2.2.2) = nI 8 by rw [Nat.le_antisymm q4 z]) c5
              rw [g2]
              exact ⟨h8, nx _ (if_neg (fun z => z.elim c4 (fun z => by omega))) (pOk_give hQ hcq h8) hQn⟩
            · rw [q2, q3] at c5
              exact nx Q (if_pos (Or.inr (by
                rcases Nat.lt_or_ge (pcN Q P.2.2.2.2.2.2) 8 with z | z
                · exact absurd c5 (nI_ne (b := 8) (by omega) (by omega) (by omega))
                · omega))) hQ hQn
          · rw [if_pos c3] at hK
            exact ⟨_, _, _, _, _, _, _, _, _, _, _, _, _, _, _, _, _, _, _, _, _, _, _, _, rfl, rfl, hK⟩
        | succ m ih2 =>
          intro i hi
          have hin : i < G.2.2.2.2.2.2.2.2 := by omega
          have nx : ∀ z, gsM G Q lk P.2.2.2.2.2.2 p td (i + 1) = z → C 68 [(0, .ref 0), (1, .int (nI p)), (2, .int (nI P.2.2.2.2.2.2)), (3, .int lk), (4, .int (nI t)), (5, .int z), (6, .int (nI i + 1))] [] (modelW 0 (tk 0 5) (tk 0 6) (0) tr wh fa ta sz ix so pl nu wd td mk mo tx (Q) ((D.1, D.2.1, vp_updL D.2.2.1 P.2.2.2.2.2.2 0, D.2.2.2)) ea pa co S Cc V ba B R L G) 0 0 := by
            intro z e
            have h9 := ih2 (i + 1) (by omega)
            rw [e, ← nI_1] at h9
            exact h9
          refine hC _ _ _ _ _ _ (And.intro (fun z => absurd z (nI_ge (by omega) (by omega))) (fun _ => And.intro (fun c3 => nx _ ?_) (fun c3 => ⟨_, _, _, _, _, _, _, _, _, _, _, _, _, _, _, _, _, _, _, _, _, _, _, _, _, _, _, _, i, P.2.2.2.2.2.2, p, rfl, rfl, hg, hin, hQ, hcq, hpq, And.intro (fun c4 => And.intro (fun c5 => nx _ ?_) (fun c5 => ?_)) (fun c4 => nx _ ?_)⟩)))
          · exact if_pos (Or.inl c3)
          · rw [gsM, if_neg (fun z => z.elim c3 c4), if_pos (Or.inl c5)]
          · obtain ⟨s, hs, hsn⟩ := (gsM_lt G Q lk P.2.2.2.2.2.2 p td i).resolve_left c5
            rw [hs]
            refine ⟨_, _, _, _, _, _, _, _, _, _, _, _, _, _, _, _, _, _, _, _, _, _, _, _, _, _, _, _, i, P.2.2.2.2.2.2, p, rfl, rfl, hg, hin, hQ, hcq, hpq, _, _, _, _, _, _, _, _, _, _, _, _, _, _, _, _, _, _, _, _, _, _, _, _, _, _, _, _, s, P.2.2.2.2.2.2, p, rfl, rfl, hg, by omega, hQ, hcq, hpq, And.intro (fun c6 => nx _ ?_) (fun c6 => nx _ ?_)⟩
            · rw [gsM, if_neg (fun z => z.elim c3 c4), if_neg (fun z => z.elim c5 (by rw [hs, nI_clamp (by omega)]; exact Int32.not_lt.mpr c6)), hs]
            · rw [gsM, if_neg (fun z => z.elim c3 c4), if_pos (Or.inr (by rw [hs, nI_clamp (by omega)]; exact Int32.not_le.mp c6))]
          · rw [gsM, if_pos (Or.inr c4)]
      exact hC _ _ _ _ _ _ (And.intro (fun z => absurd z (nI_ge (by omega) (by omega))) (fun _ => sel G.2.2.2.2.2.2.2.2 0 (by omega)))
  exact outer G.2.2.2.2.2.2.2.2 0 _ 0 (by omega) (pOk_add ho hlt) rfl hK
