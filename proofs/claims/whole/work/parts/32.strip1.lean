
def tX11_isDay : List q_I := [(0, .iload_n 0, 1, 0, 0), (1, .ifCond .lt 14, 3, 0, 15), (4, .iload_n 0, 1, 0, 0), (5, .sipush 999, 3, 999, 0), (8, .if_icmp .gt 7, 3, 0, 15), (11, .iconst 1, 1, 1, 0), (12, .goto 4, 3, 0, 16), (15, .iconst 0, 1, 0, 0), (16, .ireturn, 1, 0, 0)]
theorem tX11_isDay_ok : (tX11_isDay.all (q_okI cX11_isDay)) = true := by decide +kernel

abbrev fdX11_isDay : List (Nat ⊕ (Nat × Nat)) := []
def spX11_isDay : q_P := fun a w K => ∃ (x : Int32), w = [] ∧ a = [.int x] ∧ K (.inl (some (.int (bI (decide (0 ≤ x ∧ x ≤ 999)))))) []
abbrev csX11_isDay : q_S := (1, 99, 0, 1, 0, 0, fdX11_isDay, spX11_isDay)
def EX11_isDay : q_E := (tX11_isDay, [], 1, flX11, [], [], [], [], [], [], 0, 0, 0, (some .boolean), [], [], 0, 0)
theorem okX11_isDay (l : Launch) : q_Eok l RX11 cX11_isDay EX11_isDay := ⟨tX11_isDay_ok, flX11_ok, q_nil, q_nil, q_nil, q_nil, q_nil, q_nil, (fun h => absurd h (by decide))⟩
set_option maxRecDepth 100000 in
set_option maxHeartbeats 4000000 in
theorem ctX11_isDay (l : Launch) : q_CT l yX11_isDay (.code yX11_isDay cX11_isDay 1 (some .boolean)) 0 0 0 spX11_isDay := by
  refine q_ct_of EX11_isDay (by decide +kernel) (okX11_isDay l) rfl rfl rfl rfl rfl q_nil (fun ci h => by cases h) rfl ?_
  intro a w K h
  obtain ⟨x, rfl, rfl, hK⟩ := h
  refine ⟨Nat.le_of_ble_eq_true rfl, fun C hC => hC _ _ _ _ _ _ ?_⟩
  refine And.intro (fun c => ⟨rfl, ?_⟩) (fun c => And.intro (fun c2 => ⟨rfl, ?_⟩) (fun c2 => ⟨rfl, ?_⟩))
  · rw [bI_f (fun z => absurd c (Int32.not_lt.mpr z.1))] at hK; exact hK
  · rw [bI_f (fun z => absurd c2 (Int32.not_lt.mpr z.2))] at hK; exact hK
  · rw [bI_t ⟨Int32.not_lt.mp c, Int32.not_lt.mp c2⟩] at hK; exact hK
/-- the strip's own object, its references outside: tapeLength, hasBook, today, trouble, latestFault -/
def stripO (tl hb td tr lf : Int32) : List q_C := [.inr (11, [tk 0 0, .int tl, tk 0 2, tk 0 3, tk 0 4, .int hb, .int td, tk 0 7, tk 0 8, tk 0 9, tk 0 10, tk 0 11, tk 0 12, .int tr, .int lf])]
def tX11_grant : List q_I := [(0, .aload_n 0, 1, 0, 0), (1, .iconst 0, 1, 0, 0), (2, .putfield 128, 3, 0, 0), (5, .iload_n 1, 1, 0, 0), (6, .ireturn, 1, 0, 0)]
theorem tX11_grant_ok : (tX11_grant.all (q_okI cX11_grant)) = true := by decide +kernel

abbrev fdX11_grant : List (Nat ⊕ (Nat × Nat)) := [.inl 0]
def spX11_grant : q_P := fun a w K => ∃ (tl hb td tr lf x : Int32), w = stripO tl hb td tr lf ∧ a = [.ref 0, .int x] ∧ K (.inl (some (.int x))) (stripO tl hb td 0 lf)
abbrev csX11_grant : q_S := (2, 11, 0, 2, 0, 0, fdX11_grant, spX11_grant)
def EX11_grant : q_E := (tX11_grant, [], 2, flX11, [], [], [], [], [], [], 0, 0, 0, (some .int), [], [], 0, 0)
theorem okX11_grant (l : Launch) : q_Eok l RX11 cX11_grant EX11_grant := ⟨tX11_grant_ok, flX11_ok, q_nil, q_nil, q_nil, q_nil, q_nil, q_nil, (fun h => absurd h (by decide))⟩
set_option maxRecDepth 100000 in
set_option maxHeartbeats 4000000 in
theorem ctX11_grant (l : Launch) : q_CT l yX11_grant (.code yX11_grant cX11_grant 2 (some .int)) 0 0 0 spX11_grant := by
  refine q_ct_of EX11_grant (by decide +kernel) (okX11_grant l) rfl rfl rfl rfl rfl q_nil (fun ci h => by cases h) rfl ?_
  intro a w K h
  obtain ⟨tl, hb, td, tr, lf, x, rfl, rfl, hK⟩ := h
  refine ⟨Nat.le_of_ble_eq_true rfl, fun C hC => hC _ _ _ _ _ _ ?_⟩
  exact hK
def tX11_refuse : List q_I := [(0, .aload_n 0, 1, 0, 0), (1, .iload_n 1, 1, 0, 0), (2, .putfield 128, 3, 0, 0), (5, .iconst (-1), 1, (-1), 0), (6, .ireturn, 1, 0, 0)]
theorem tX11_refuse_ok : (tX11_refuse.all (q_okI cX11_refuse)) = true := by decide +kernel

abbrev fdX11_refuse : List (Nat ⊕ (Nat × Nat)) := [.inl 0]
def spX11_refuse : q_P := fun a w K => ∃ (tl hb td tr lf x : Int32), w = stripO tl hb td tr lf ∧ a = [.ref 0, .int x] ∧ K (.inl (some (.int (-1)))) (stripO tl hb td x lf)
abbrev csX11_refuse : q_S := (2, 11, 0, 2, 0, 0, fdX11_refuse, spX11_refuse)
def EX11_refuse : q_E := (tX11_refuse, [], 2, flX11, [], [], [], [], [], [], 0, 0, 0, (some .int), [], [], 0, 0)
theorem okX11_refuse (l : Launch) : q_Eok l RX11 cX11_refuse EX11_refuse := ⟨tX11_refuse_ok, flX11_ok, q_nil, q_nil, q_nil, q_nil, q_nil, q_nil, (fun h => absurd h (by decide))⟩
set_option maxRecDepth 100000 in
set_option maxHeartbeats 4000000 in
theorem ctX11_refuse (l : Launch) : q_CT l yX11_refuse (.code yX11_refuse cX11_refuse 2 (some .int)) 0 0 0 spX11_refuse := by
  refine q_ct_of EX11_refuse (by decide +kernel) (okX11_refuse l) rfl rfl rfl rfl rfl q_nil (fun ci h => by cases h) rfl ?_
  intro a w K h
  obtain ⟨tl, hb, td, tr, lf, x, rfl, rfl, hK⟩ := h
  refine ⟨Nat.le_of_ble_eq_true rfl, fun C hC => hC _ _ _ _ _ _ ?_⟩
  exact hK
def tX11_decline : List q_I := [(0, .aload_n 0, 1, 0, 0), (1, .iload_n 1, 1, 0, 0), (2, .putfield 128, 3, 0, 0), (5, .iconst 0, 1, 0, 0), (6, .ireturn, 1, 0, 0)]
theorem tX11_decline_ok : (tX11_decline.all (q_okI cX11_decline)) = true := by decide +kernel

abbrev fdX11_decline : List (Nat ⊕ (Nat × Nat)) := [.inl 0]
def spX11_decline : q_P := fun a w K => ∃ (tl hb td tr lf x : Int32), w = stripO tl hb td tr lf ∧ a = [.ref 0, .int x] ∧ K (.inl (some (.int 0))) (stripO tl hb td x lf)
abbrev csX11_decline : q_S := (2, 11, 0, 2, 0, 0, fdX11_decline, spX11_decline)
def EX11_decline : q_E := (tX11_decline, [], 2, flX11, [], [], [], [], [], [], 0, 0, 0, (some .boolean), [], [], 0, 0)
theorem okX11_decline (l : Launch) : q_Eok l RX11 cX11_decline EX11_decline := ⟨tX11_decline_ok, flX11_ok, q_nil, q_nil, q_nil, q_nil, q_nil, q_nil, (fun h => absurd h (by decide))⟩
set_option maxRecDepth 100000 in
set_option maxHeartbeats 4000000 in
theorem ctX11_decline (l : Launch) : q_CT l yX11_decline (.code yX11_decline cX11_decline 2 (some .boolean)) 0 0 0 spX11_decline := by
  refine q_ct_of EX11_decline (by decide +kernel) (okX11_decline l) rfl rfl rfl rfl rfl q_nil (fun ci h => by cases h) rfl ?_
  intro a w K h
  obtain ⟨tl, hb, td, tr, lf, x, rfl, rfl, hK⟩ := h
  refine ⟨Nat.le_of_ble_eq_true rfl, fun C hC => hC _ _ _ _ _ _ ?_⟩
  exact ⟨rfl, hK⟩
/-- the strip and the told numbers of its book -/
def stripT (tl hb td tr lf m : Int32) (T : Nat → Int32) : List q_C := [.inr (11, [tk 0 0, .int tl, .ref 1, tk 0 3, tk 0 4, .int hb, .int td, tk 0 7, tk 0 8, tk 0 9, tk 0 10, tk 0 11, tk 0 12, .int tr, .int lf]), .inr (0, [.ref 2, tk 1 1, tk 1 2, tk 1 3, .int m, tk 1 5, tk 1 6, tk 1 7]), .inl (1, 4, .inl T)]
def toldB (T : Nat → Int32) (s : Nat) (x : Int32) : Bool := decide (0 ≤ x ∧ x < T s)
def sortB (T : Nat → Int32) (x y : Int32) : Bool := toldB T 3 x && toldB T 2 y
def tX11_isPaperSort : List q_I := [(0, .aload_n 0, 1, 0, 0), (1, .getfield 16, 3, 0, 0), (4, .iconst 3, 1, 3, 0), (5, .iload_n 1, 1, 0, 0), (6, .invokevirtual 145, 3, 0, 0), (9, .ifCond .eq 19, 3, 0, 28), (12, .aload_n 0, 1, 0, 0), (13, .getfield 16, 3, 0, 0), (16, .iconst 2, 1, 2, 0), (17, .iload_n 2, 1, 0, 0), (18, .invokevirtual 145, 3, 0, 0), (21, .ifCond .eq 7, 3, 0, 28), (24, .iconst 1, 1, 1, 0), (25, .goto 4, 3, 0, 29), (28, .iconst 0, 1, 0, 0), (29, .ireturn, 1, 0, 0)]
theorem tX11_isPaperSort_ok : (tX11_isPaperSort.all (q_okI cX11_isPaperSort)) = true := by decide +kernel

abbrev fdX11_isPaperSort : List (Nat ⊕ (Nat × Nat)) := [.inl 0, .inr (0, 2), .inr (1, 0)]
def spX11_isPaperSort : q_P := fun a w K => ∃ (tl hb td tr lf m x y : Int32) (T : Nat → Int32), w = stripT tl hb td tr lf m T ∧ a = [.ref 0, .int x, .int y] ∧ K (.inl (some (.int (bI (sortB T x y))))) (stripT tl hb td tr lf m T)
abbrev csX11_isPaperSort : q_S := (3, 11, 1, 3, 0, 0, fdX11_isPaperSort, spX11_isPaperSort)
theorem coX11_145 (l : Launch) : q_CO l RX11 145 csX0_has := ⟨yX0_has, cX0_has, (some .boolean), 2, ⟨by decide +kernel, by decide +kernel, by decide +kernel⟩, q_G_i 2 (by decide +kernel) rfl, Or.inl ⟨by decide, rfl, rfl, q_G_i 749 (by decide +kernel) rfl, q_G_i 750 (by decide +kernel) rfl, q_G_i 751 (by decide +kernel) rfl, Or.inl ⟨q_G_i 752 (by decide +kernel) rfl, ctX0_has l⟩⟩⟩
def EX11_isPaperSort : q_E := (tX11_isPaperSort, [], 3, flX11, [(145, csX0_has)], [], [], [], [], [], 1, 0, 0, (some .boolean), [], [], 0, 0)
theorem okX11_isPaperSort (l : Launch) : q_Eok l RX11 cX11_isPaperSort EX11_isPaperSort := ⟨tX11_isPaperSort_ok, flX11_ok, List.forall_mem_cons.mpr ⟨(coX11_145 l), q_nil⟩, q_nil, q_nil, q_nil, q_nil, q_nil, (fun h => absurd h (by decide))⟩
set_option maxRecDepth 100000 in
set_option maxHeartbeats 4000000 in
theorem ctX11_isPaperSort (l : Launch) : q_CT l yX11_isPaperSort (.code yX11_isPaperSort cX11_isPaperSort 3 (some .boolean)) 1 0 0 spX11_isPaperSort := by
  refine q_ct_of EX11_isPaperSort (by decide +kernel) (okX11_isPaperSort l) rfl rfl rfl rfl rfl q_nil (fun ci h => by cases h) rfl ?_
  intro a w K h
  obtain ⟨tl, hb, td, tr, lf, m, x, y, T, rfl, rfl, hK⟩ := h
  refine ⟨Nat.le_of_ble_eq_true rfl, fun C hC => hC _ _ _ _ _ _ ?_⟩
  refine ⟨T, 3, x, _, _, _, _, _, _, _, rfl, rfl, by decide, And.intro (fun c => ⟨rfl, ?_⟩) (fun c => ?_)⟩
  · have c : toldB T 3 x = false := bI_0.mp c
    rw [sortB, c, Bool.false_and] at hK; exact hK
  · have c : toldB T 3 x = true := bI_n0.mp c
    rw [sortB, c, Bool.true_and] at hK
    refine ⟨T, 2, y, _, _, _, _, _, _, _, rfl, rfl, by decide, And.intro (fun c2 => ⟨rfl, ?_⟩) (fun c2 => ⟨rfl, ?_⟩)⟩
    · have c2 : toldB T 2 y = false := bI_0.mp c2
      rw [c2] at hK; exact hK
    · have c2 : toldB T 2 y = true := bI_n0.mp c2
      rw [c2] at hK; exact hK
