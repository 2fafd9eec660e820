
def tX11_isDay : List q_I := [(0, .iload_n 0, 1, 0, 0), (1, .ifCond .lt 14, 3, 0, 15), (4, .iload_n 0, 1, 0, 0), (5, .sipush 999, 3, 999, 0), (8, .if_icmp .gt 7, 3, 0, 15), (11, .iconst 1, 1, 1, 0), (12, .goto 4, 3, 0, 16), (15, .iconst 0, 1, 0, 0), (16, .ireturn, 1, 0, 0)]
theorem tX11_isDay_ok : (tX11_isDay.all (q_okI cX11_isDay)) = true := by decide +kernel

abbrev fdX11_isDay : List (Nat ⊕ (Nat × Nat)) := []
def spX11_isDay : q_P := fun a w K => ∃ (x : Int32), w = [] ∧ a = [.int x] ∧ K (.inl (some (.int (bI (decide (0 ≤ x ∧ x ≤ 999)))))) []
abbrev csX11_isDay : q_S := (1, 99, 0, 1, 0, 0, fdX11_isDay, spX11_isDay)
def EX11_isDay : q_E := (tX11_isDay, [], 1, flX11, [], [], [], [], [], [], 0, 0, 0, (some .boolean), [], [], 0, 0)
theorem okX11_isDay (l : Launch) : q_Eok l RX11 cX11_isDay EX11_isDay := ⟨tX11_isDay_ok, flX11_ok, q_nil, q_nil, q_nil, q_nil, q_nil, q_nil, (fun h => absurd h (by decide))⟩
set_option maxRecDepth 100000 in
set_option maxHeartbeats 4000000 in
theorem ctX11_isDay (l : Launch) : q_CT l yX11_isDay (.code yX11_isDay cX11_isDay 1 (some .boolean)) 0 0 0 spX11_isDay := by
  refine q_ct_of EX11_isDay (by decide +kernel) (okX11_isDay l) rfl rfl rfl rfl rfl q_nil (fun ci h => by cases h) rfl ?_
  intro a w K h
  obtain ⟨x, rfl, rfl, hK⟩ := h
  refine ⟨Nat.le_of_ble_eq_true rfl, fun C hC => hC _ _ _ _ _ _ ?_⟩
  refine And.intro (fun c => ⟨rfl, ?_⟩) (fun c => And.intro (fun c2 => ⟨rfl, ?_⟩) (fun c2 => ⟨rfl, ?_⟩))
  · rw [bI_f (fun z => absurd c (Int32.not_lt.mpr z.1))] at hK; exact hK
  · rw [bI_f (fun z => absurd c2 (Int32.not_lt.mpr z.2))] at hK; exact hK
  · rw [bI_t ⟨Int32.not_lt.mp c, Int32.not_lt.mp c2⟩] at hK; exact hK
/-- the strip's own object, its references outside: tapeLength, hasBook, today, trouble, latestFault -/
def stripO (tl hb td tr lf : Int32) : List q_C := [.inr (11, [tk 0 0, .int tl, tk 0 2, tk 0 3, tk 0 4, .int hb, .int td, tk 0 7, tk 0 8, tk 0 9, tk 0 10, tk 0 11, tk 0 12, .int tr, .int lf])]
def tX11_grant : List q_I := [(0, .aload_n 0, 1, 0, 0), (1, .iconst 0, 1, 0, 0), (2, .putfield 128, 3, 0, 0), (5, .iload_n 1, 1, 0, 0), (6, .ireturn, 1, 0, 0)]
theorem tX11_grant_ok : (tX11_grant.all (q_okI cX11_grant)) = true := by decide +kernel

abbrev fdX11_grant : List (Nat ⊕ (Nat × Nat)) := [.inl 0]
def spX11_grant : q_P := fun a w K => ∃ (tl hb td tr lf x : Int32), w = stripO tl hb td tr lf ∧ a = [.ref 0, .int x] ∧ K (.inl (some (.int x))) (stripO tl hb td 0 lf)
abbrev csX11_grant : q_S := (2, 11, 0, 2, 0, 0, fdX11_grant, spX11_grant)
def EX11_grant : q_E := (tX11_grant, [], 2, flX11, [], [], [], [], [], [], 0, 0, 0, (some .int), [], [], 0, 0)
theorem okX11_grant (l : Launch) : q_Eok l RX11 cX11_grant EX11_grant := ⟨tX11_grant_ok, flX11_ok, q_nil, q_nil, q_nil, q_nil, q_nil, q_nil, (fun h => absurd h (by decide))⟩
set_option maxRecDepth 100000 in
set_option maxHeartbeats 4000000 in
theorem ctX11_grant (l : Launch) : q_CT l yX11_grant (.code yX11_grant cX11_grant 2 (some .int)) 0 0 0 spX11_grant := by
  refine q_ct_of EX11_grant (by decide +kernel) (okX11_grant l) rfl rfl rfl rfl rfl q_nil (fun ci h => by cases h) rfl ?_
  intro a w K h
  obtain ⟨tl, hb, td, tr, lf, x, rfl, rfl, hK⟩ := h
  refine ⟨Nat.le_of_ble_eq_true rfl, fun C hC => hC _ _ _ _ _ _ ?_⟩
  exact hK
def tX11_refuse : List q_I := [(0, .aload_n 0, 1, 0, 0), (1, .iload_n 1, 1, 0, 0), (2, .putfield 128, 3, 0, 0), (5, .iconst (-1), 1, (-1), 0), (6, .ireturn, 1, 0, 0)]
theorem tX11_refuse_ok : (tX11_refuse.all (q_okI cX11_refuse)) = true := by decide +kernel

abbrev fdX11_refuse : List (Nat ⊕ (Nat × Nat)) := [.inl 0]
def spX11_refuse : q_P := fun a w K => ∃ (tl hb td tr lf x : Int32), w = stripO tl hb td tr lf ∧ a = [.ref 0, .int x] ∧ K (.inl (some (.int (-1)))) (stripO tl hb td x lf)
abbrev csX11_refuse : q_S := (2, 11, 0, 2, 0, 0, fdX11_refuse, spX11_refuse)
def EX11_refuse : q_E := (tX11_refuse, [], 2, flX11, [], [], [], [], [], [], 0, 0, 0, (some .int), [], [], 0, 0)
theorem okX11_refuse (l : Launch) : q_Eok l RX11 cX11_refuse EX11_refuse := ⟨tX11_refuse_ok, flX11_ok, q_nil, q_nil, q_nil, q_nil, q_nil, q_nil, (fun h => absurd h (by decide))⟩
set_option maxRecDepth 100000 in
set_option maxHeartbeats 4000000 in
theorem ctX11_refuse (l : Launch) : q_CT l yX11_refuse (.code yX11_refuse cX11_refuse 2 (some .int)) 0 0 0 spX11_refuse := by
  refine q_ct_of EX11_refuse (by decide +kernel) (okX11_refuse l) rfl rfl rfl rfl rfl q_nil (fun ci h => by cases h) rfl ?_
  intro a w K h
  obtain ⟨tl, hb, td, tr, lf, x, rfl, rfl, hK⟩ := h
  refine ⟨Nat.le_of_ble_eq_true rfl, fun C hC => hC _ _ _ _ _ _ ?_⟩
  exact hK
def tX11_decline : List q_I := [(0, .aload_n 0, 1, 0, 0), (1, .iload_n 1, 1, 0, 0), (2, .putfield 128, 3, 0, 0), (5, .iconst 0, 1, 0, 0), (6, .ireturn, 1, 0, 0)]
theorem tX11_decline_ok : (tX11_decline.all (q_okI cX11_decline)) = true := by decide +kernel

abbrev fdX11_decline : List (Nat ⊕ (Nat × Nat)) := [.inl 0]
def spX11_decline : q_P := fun a w K => ∃ (tl hb td tr lf x : Int32), w = stripO tl hb td tr lf ∧ a = [.ref 0, .int x] ∧ K (.inl (some (.int 0))) (stripO tl hb td x lf)
abbrev csX11_decline : q_S := (2, 11, 0, 2, 0, 0, fdX11_decline, spX11_decline)
def EX11_decline : q_E := (tX11_decline, [], 2, flX11, [], [], [], [], [], [], 0, 0, 0, (some .boolean), [], [], 0, 0)
theorem okX11_decline (l : Launch) : q_Eok l RX11 cX11_decline EX11_decline := ⟨tX11_decline_ok, flX11_ok, q_nil, q_nil, q_nil, q_nil, q_nil, q_nil, (fun h => absurd h (by decide))⟩
set_option maxRecDepth 100000 in
set_option maxHeartbeats 4000000 in
theorem ctX11_decline (l : Launch) : q_CT l yX11_decline (.code yX11_decline cX11_decline 2 (some .boolean)) 0 0 0 spX11_decline := by
  refine q_ct_of EX11_decline (by decide +kernel) (okX11_decline l) rfl rfl rfl rfl rfl q_nil (fun ci h => by cases h) rfl ?_
  intro a w K h
  obtain ⟨tl, hb, td, tr, lf, x, rfl, rfl, hK⟩ := h
  refine ⟨Nat.le_of_ble_eq_true rfl, fun C hC => hC _ _ _ _ _ _ ?_⟩
  exact ⟨rfl, hK⟩
