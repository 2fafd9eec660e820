
def tX11_trouble : List q_I := [(0, .aload_n 0, 1, 0, 0), (1, .getfield 128, 3, 0, 0), (4, .ireturn, 1, 0, 0)]
theorem tX11_trouble_ok : (tX11_trouble.all (q_okI cX11_trouble)) = true := by decide +kernel

abbrev fdX11_trouble : List (Nat ⊕ (Nat × Nat)) := [.inl 0]
def spX11_trouble : q_P := fun a w K => ∃ (tl hb td tr lf : Int32), w = stripO tl hb td tr lf ∧ a = [.ref 0] ∧ K (.inl (some (.int tr))) (stripO tl hb td tr lf)
abbrev csX11_trouble : q_S := (1, 11, 0, 1, 0, 0, fdX11_trouble, spX11_trouble)
def EX11_trouble : q_E := (tX11_trouble, [], 1, flX11, [], [], [], [], [], [], 0, 0, 0, (some .int), [], [], 0, 0)
theorem okX11_trouble (l : Launch) : q_Eok l RX11 cX11_trouble EX11_trouble := ⟨tX11_trouble_ok, flX11_ok, q_nil, q_nil, q_nil, q_nil, q_nil, q_nil, (fun h => absurd h (by decide))⟩
set_option maxRecDepth 100000 in
set_option maxHeartbeats 4000000 in
theorem ctX11_trouble (l : Launch) : q_CT l yX11_trouble (.code yX11_trouble cX11_trouble 1 (some .int)) 0 0 0 spX11_trouble := by
  refine q_ct_of EX11_trouble (by decide +kernel) (okX11_trouble l) rfl rfl rfl rfl rfl q_nil (fun ci h => by cases h) rfl ?_
  intro a w K h
  obtain ⟨tl, hb, td, tr, lf, rfl, rfl, hK⟩ := h
  refine ⟨Nat.le_of_ble_eq_true rfl, fun C hC => hC _ _ _ _ _ _ ?_⟩
  exact hK
def tX11_fault : List q_I := [(0, .aload_n 0, 1, 0, 0), (1, .getfield 98, 3, 0, 0), (4, .ireturn, 1, 0, 0)]
theorem tX11_fault_ok : (tX11_fault.all (q_okI cX11_fault)) = true := by decide +kernel

abbrev fdX11_fault : List (Nat ⊕ (Nat × Nat)) := [.inl 0]
def spX11_fault : q_P := fun a w K => ∃ (tl hb td tr lf : Int32), w = stripO tl hb td tr lf ∧ a = [.ref 0] ∧ K (.inl (some (.int lf))) (stripO tl hb td tr lf)
abbrev csX11_fault : q_S := (1, 11, 0, 1, 0, 0, fdX11_fault, spX11_fault)
def EX11_fault : q_E := (tX11_fault, [], 1, flX11, [], [], [], [], [], [], 0, 0, 0, (some .int), [], [], 0, 0)
theorem okX11_fault (l : Launch) : q_Eok l RX11 cX11_fault EX11_fault := ⟨tX11_fault_ok, flX11_ok, q_nil, q_nil, q_nil, q_nil, q_nil, q_nil, (fun h => absurd h (by decide))⟩
set_option maxRecDepth 100000 in
set_option maxHeartbeats 4000000 in
theorem ctX11_fault (l : Launch) : q_CT l yX11_fault (.code yX11_fault cX11_fault 1 (some .int)) 0 0 0 spX11_fault := by
  refine q_ct_of EX11_fault (by decide +kernel) (okX11_fault l) rfl rfl rfl rfl rfl q_nil (fun ci h => by cases h) rfl ?_
  intro a w K h
  obtain ⟨tl, hb, td, tr, lf, rfl, rfl, hK⟩ := h
  refine ⟨Nat.le_of_ble_eq_true rfl, fun C hC => hC _ _ _ _ _ _ ?_⟩
  exact hK
def pdR (P : PT) (x d : Int32) : Int32 := if 0 ≤ x ∧ x < nI P.2.2.2.2.2.2 then (if dayB d then 0 else 2) else 1
