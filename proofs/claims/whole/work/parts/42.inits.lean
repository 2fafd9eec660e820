def zLT : LT := ((fun _ => 0), (fun _ => 0), (fun _ => 0), (fun _ => 0), (fun _ => 0), (fun _ => 0), (fun _ => 0), 0)
def zPT : PT := ((fun _ => 0), (fun _ => 0), (fun _ => 0), (fun _ => 0), (fun _ => 0), (fun _ => 0), 0)
def zRT : RT := ((fun _ => 0), (fun _ => 0), (fun _ => 0), (fun _ => 0), (fun _ => 0), (fun _ => 0), (fun _ => 0), 0)
def zGT : GT := ((fun _ => 0), (fun _ => 0), (fun _ => 0), (fun _ => 0), (fun _ => 0), (fun _ => 0), (fun _ => 0), (fun _ => 0), 0)
def zBT : BT := ((fun _ => 0), (fun _ => 0), (fun _ => 0), (fun _ => 0), 0)
def zCT : CT := ((fun _ => 0), (fun _ => 0), (fun _ => 0), (fun _ => 0), (fun _ => 0), (fun _ => 0), (fun _ => 0), 0)
def zDT : DT := ((fun _ => 0), (fun _ => 0), (fun _ => 0), 0)
def zWT : WT := ((fun _ => 0), (fun _ => 0), (fun _ => 0), (fun _ => 0), (fun _ => 0), (fun _ => 0))
def zST : ST := ((fun _ => 0), (fun _ => 0), (fun _ => 0), (fun _ => 0), (fun _ => 0), 0, -1)
def zYT : YT := ((fun _ => 0), (fun _ => 0), (fun _ => 0), (fun _ => 0), (fun _ => 0), (fun _ => 0), 0, 0, 1)
def zNT : NT := (0, 0, 0, 0, 0, 0, 0, 0, 0, 0)

def tX3_init : List q_I := [(0, .aload_n 0, 1, 0, 0), (1, .invokespecial 3, 3, 0, 0), (4, .aload_n 0, 1, 0, 0), (5, .bipush 24, 2, 24, 0), (7, .newarray .int, 2, 0, 24), (9, .putfield 11, 3, 0, 0), (12, .aload_n 0, 1, 0, 0), (13, .bipush 24, 2, 24, 0), (15, .newarray .int, 2, 0, 24), (17, .putfield 15, 3, 0, 0), (20, .aload_n 0, 1, 0, 0), (21, .bipush 24, 2, 24, 0), (23, .newarray .int, 2, 0, 24), (25, .putfield 18, 3, 0, 0), (28, .aload_n 0, 1, 0, 0), (29, .bipush 24, 2, 24, 0), (31, .newarray .boolean, 2, 0, 24), (33, .putfield 21, 3, 0, 0), (36, .aload_n 0, 1, 0, 0), (37, .bipush 24, 2, 24, 0), (39, .newarray .int, 2, 0, 24), (41, .putfield 25, 3, 0, 0), (44, .aload_n 0, 1, 0, 0), (45, .bipush 24, 2, 24, 0), (47, .newarray .int, 2, 0, 24), (49, .putfield 28, 3, 0, 0), (52, .aload_n 0, 1, 0, 0), (53, .bipush 24, 2, 24, 0), (55, .newarray .int, 2, 0, 24), (57, .putfield 31, 3, 0, 0), (60, .return_, 1, 0, 0)]
theorem tX3_init_ok : (tX3_init.all (q_okI cX3_init)) = true := by decide +kernel

abbrev fdX3_init : List (Nat ⊕ (Nat × Nat)) := [.inl 0]
def spX3_init : q_P := fun a w K => w = [.inr (3, [.null, .null, .null, .null, .null, .null, .null, .int 0])] ∧ a = [.ref 0] ∧ K (.inl none) (lawsW 0 zLT)
abbrev csX3_init : q_S := (1, 97, 1, 1, 7, 168, fdX3_init, spX3_init)
def EX3_init : q_E := (tX3_init, [], 1, flX3, [], [], [], [], [], [], 1, 7, 168, none, [], [], 3, 4)
theorem okX3_init (l : Launch) : q_Eok l RX3 cX3_init EX3_init := ⟨tX3_init_ok, flX3_ok, q_nil, q_nil, q_nil, q_nil, q_nil, q_nil, fun _ => q_G_i 93 (by decide +kernel) rfl⟩
set_option maxRecDepth 100000 in
set_option maxHeartbeats 4000000 in
theorem ctX3_init (l : Launch) : q_CT l yX3_init (.code yX3_init cX3_init 1 none) 1 7 168 spX3_init := by
  refine q_ct_of EX3_init (by decide +kernel) (okX3_init l) rfl rfl rfl rfl rfl q_nil (fun ci h => by cases h; exact ⟨rfl, rfl⟩) rfl ?_
  intro a w K h
  obtain ⟨rfl, rfl, hK⟩ := h
  refine ⟨Nat.le_of_ble_eq_true rfl, fun C hC => hC _ _ _ _ _ _ ?_⟩
  exact ⟨⟨rfl, by decide, by decide, by decide⟩, ⟨rfl, by decide, by decide, by decide⟩, ⟨rfl, by decide, by decide, by decide⟩, ⟨rfl, by decide, by decide, by decide⟩, ⟨rfl, by decide, by decide, by decide⟩, ⟨rfl, by decide, by decide, by decide⟩, ⟨rfl, by decide, by decide, by decide⟩, hK⟩
def tX8_init : List q_I := [(0, .aload_n 0, 1, 0, 0), (1, .invokespecial 3, 3, 0, 0), (4, .aload_n 0, 1, 0, 0), (5, .bipush 16, 2, 16, 0), (7, .newarray .int, 2, 0, 16), (9, .putfield 11, 3, 0, 0), (12, .aload_n 0, 1, 0, 0), (13, .bipush 16, 2, 16, 0), (15, .newarray .int, 2, 0, 16), (17, .putfield 15, 3, 0, 0), (20, .aload_n 0, 1, 0, 0), (21, .bipush 16, 2, 16, 0), (23, .newarray .int, 2, 0, 16), (25, .putfield 18, 3, 0, 0), (28, .aload_n 0, 1, 0, 0), (29, .bipush 16, 2, 16, 0), (31, .newarray .int, 2, 0, 16), (33, .putfield 21, 3, 0, 0), (36, .aload_n 0, 1, 0, 0), (37, .bipush 16, 2, 16, 0), (39, .newarray .int, 2, 0, 16), (41, .putfield 24, 3, 0, 0), (44, .aload_n 0, 1, 0, 0), (45, .bipush 48, 2, 48, 0), (47, .newarray .int, 2, 0, 48), (49, .putfield 27, 3, 0, 0), (52, .aload_n 0, 1, 0, 0), (53, .bipush 48, 2, 48, 0), (55, .newarray .int, 2, 0, 48), (57, .putfield 30, 3, 0, 0), (60, .return_, 1, 0, 0)]
theorem tX8_init_ok : (tX8_init.all (q_okI cX8_init)) = true := by decide +kernel

abbrev fdX8_init : List (Nat ⊕ (Nat × Nat)) := [.inl 0]
def spX8_init : q_P := fun a w K => w = [.inr (8, [.null, .null, .null, .null, .null, .null, .null, .int 0])] ∧ a = [.ref 0] ∧ K (.inl none) (roadsW 0 zRT)
abbrev csX8_init : q_S := (1, 97, 1, 1, 7, 176, fdX8_init, spX8_init)
def EX8_init : q_E := (tX8_init, [], 1, flX8, [], [], [], [], [], [], 1, 7, 176, none, [], [], 3, 9)
theorem okX8_init (l : Launch) : q_Eok l RX8 cX8_init EX8_init := ⟨tX8_init_ok, flX8_ok, q_nil, q_nil, q_nil, q_nil, q_nil, q_nil, fun _ => q_G_i 45 (by decide +kernel) rfl⟩
set_option maxRecDepth 100000 in
set_option maxHeartbeats 4000000 in
theorem ctX8_init (l : Launch) : q_CT l yX8_init (.code yX8_init cX8_init 1 none) 1 7 176 spX8_init := by
  refine q_ct_of EX8_init (by decide +kernel) (okX8_init l) rfl rfl rfl rfl rfl q_nil (fun ci h => by cases h; exact ⟨rfl, rfl⟩) rfl ?_
  intro a w K h
  obtain ⟨rfl, rfl, hK⟩ := h
  refine ⟨Nat.le_of_ble_eq_true rfl, fun C hC => hC _ _ _ _ _ _ ?_⟩
  exact ⟨⟨rfl, by decide, by decide, by decide⟩, ⟨rfl, by decide, by decide, by decide⟩, ⟨rfl, by decide, by decide, by decide⟩, ⟨rfl, by decide, by decide, by decide⟩, ⟨rfl, by decide, by decide, by decide⟩, ⟨rfl, by decide, by decide, by decide⟩, ⟨rfl, by decide, by decide, by decide⟩, hK⟩
def tX2_init : List q_I := [(0, .aload_n 0, 1, 0, 0), (1, .invokespecial 3, 3, 0, 0), (4, .aload_n 0, 1, 0, 0), (5, .bipush 12, 2, 12, 0), (7, .newarray .int, 2, 0, 12), (9, .putfield 11, 3, 0, 0), (12, .aload_n 0, 1, 0, 0), (13, .bipush 12, 2, 12, 0), (15, .newarray .int, 2, 0, 12), (17, .putfield 15, 3, 0, 0), (20, .aload_n 0, 1, 0, 0), (21, .bipush 12, 2, 12, 0), (23, .newarray .int, 2, 0, 12), (25, .putfield 18, 3, 0, 0), (28, .aload_n 0, 1, 0, 0), (29, .bipush 12, 2, 12, 0), (31, .newarray .int, 2, 0, 12), (33, .putfield 21, 3, 0, 0), (36, .aload_n 0, 1, 0, 0), (37, .bipush 36, 2, 36, 0), (39, .newarray .int, 2, 0, 36), (41, .putfield 24, 3, 0, 0), (44, .aload_n 0, 1, 0, 0), (45, .bipush 36, 2, 36, 0), (47, .newarray .int, 2, 0, 36), (49, .putfield 27, 3, 0, 0), (52, .aload_n 0, 1, 0, 0), (53, .bipush 36, 2, 36, 0), (55, .newarray .int, 2, 0, 36), (57, .putfield 30, 3, 0, 0), (60, .aload_n 0, 1, 0, 0), (61, .bipush 12, 2, 12, 0), (63, .newarray .boolean, 2, 0, 12), (65, .putfield 33, 3, 0, 0), (68, .return_, 1, 0, 0)]
theorem tX2_init_ok : (tX2_init.all (q_okI cX2_init)) = true := by decide +kernel

abbrev fdX2_init : List (Nat ⊕ (Nat × Nat)) := [.inl 0]
def spX2_init : q_P := fun a w K => w = [.inr (2, [.null, .null, .null, .null, .null, .null, .null, .null, .int 0])] ∧ a = [.ref 0] ∧ K (.inl none) (giftsW 0 zGT)
abbrev csX2_init : q_S := (1, 97, 1, 1, 8, 168, fdX2_init, spX2_init)
def EX2_init : q_E := (tX2_init, [], 1, flX2, [], [], [], [], [], [], 1, 8, 168, none, [], [], 3, 3)
theorem okX2_init (l : Launch) : q_Eok l RX2 cX2_init EX2_init := ⟨tX2_init_ok, flX2_ok, q_nil, q_nil, q_nil, q_nil, q_nil, q_nil, fun _ => q_G_i 127 (by decide +kernel) rfl⟩
set_option maxRecDepth 100000 in
set_option maxHeartbeats 4000000 in
theorem ctX2_init (l : Launch) : q_CT l yX2_init (.code yX2_init cX2_init 1 none) 1 8 168 spX2_init := by
  refine q_ct_of EX2_init (by decide +kernel) (okX2_init l) rfl rfl rfl rfl rfl q_nil (fun ci h => by cases h; exact ⟨rfl, rfl⟩) rfl ?_
  intro a w K h
  obtain ⟨rfl, rfl, hK⟩ := h
  refine ⟨Nat.le_of_ble_eq_true rfl, fun C hC => hC _ _ _ _ _ _ ?_⟩
  exact ⟨⟨rfl, by decide, by decide, by decide⟩, ⟨rfl, by decide, by decide, by decide⟩, ⟨rfl, by decide, by decide, by decide⟩, ⟨rfl, by decide, by decide, by decide⟩, ⟨rfl, by decide, by decide, by decide⟩, ⟨rfl, by decide, by decide, by decide⟩, ⟨rfl, by decide, by decide, by decide⟩, ⟨rfl, by decide, by decide, by decide⟩, hK⟩
def tX4_init : List q_I := [(0, .aload_n 0, 1, 0, 0), (1, .invokespecial 1, 3, 0, 0), (4, .aload_n 0, 1, 0, 0), (5, .bipush 10, 2, 10, 0), (7, .newarray .int, 2, 0, 10), (9, .putfield 9, 3, 0, 0), (12, .aload_n 0, 1, 0, 0), (13, .bipush 10, 2, 10, 0), (15, .newarray .int, 2, 0, 10), (17, .putfield 13, 3, 0, 0), (20, .aload_n 0, 1, 0, 0), (21, .bipush 30, 2, 30, 0), (23, .newarray .long, 2, 0, 30), (25, .putfield 18, 3, 0, 0), (28, .return_, 1, 0, 0)]
theorem tX4_init_ok : (tX4_init.all (q_okI cX4_init)) = true := by decide +kernel

abbrev fdX4_init : List (Nat ⊕ (Nat × Nat)) := [.inl 0]
def spX4_init : q_P := fun a w K => w = [.inr (4, [.null, .null, .null, .int 0])] ∧ a = [.ref 0] ∧ K (.inl none) (ledgerW 0 zDT)
abbrev csX4_init : q_S := (1, 97, 1, 1, 3, 50, fdX4_init, spX4_init)
def EX4_init : q_E := (tX4_init, [], 1, flX4, [], [], [], [], [], [], 1, 3, 50, none, [], [], 1, 5)
theorem okX4_init (l : Launch) : q_Eok l RX4 cX4_init EX4_init := ⟨tX4_init_ok, flX4_ok, q_nil, q_nil, q_nil, q_nil, q_nil, q_nil, fun _ => q_G_i 482 (by decide +kernel) rfl⟩
set_option maxRecDepth 100000 in
set_option maxHeartbeats 4000000 in
theorem ctX4_init (l : Launch) : q_CT l yX4_init (.code yX4_init cX4_init 1 none) 1 3 50 spX4_init := by
  refine q_ct_of EX4_init (by decide +kernel) (okX4_init l) rfl rfl rfl rfl rfl q_nil (fun ci h => by cases h; exact ⟨rfl, rfl⟩) rfl ?_
  intro a w K h
  obtain ⟨rfl, rfl, hK⟩ := h
  refine ⟨Nat.le_of_ble_eq_true rfl, fun C hC => hC _ _ _ _ _ _ ?_⟩
  exact ⟨⟨rfl, by decide, by decide, by decide⟩, ⟨rfl, by decide, by decide, by decide⟩, ⟨rfl, by decide, by decide, by decide⟩, hK⟩
def tX5_init : List q_I := [(0, .aload_n 0, 1, 0, 0), (1, .invokespecial 3, 3, 0, 0), (4, .aload_n 0, 1, 0, 0), (5, .bipush 9, 2, 9, 0), (7, .newarray .int, 2, 0, 9), (9, .putfield 11, 3, 0, 0), (12, .aload_n 0, 1, 0, 0), (13, .bipush 9, 2, 9, 0), (15, .newarray .int, 2, 0, 9), (17, .putfield 15, 3, 0, 0), (20, .aload_n 0, 1, 0, 0), (21, .bipush 9, 2, 9, 0), (23, .newarray .int, 2, 0, 9), (25, .putfield 18, 3, 0, 0), (28, .aload_n 0, 1, 0, 0), (29, .bipush 48, 2, 48, 0), (31, .newarray .int, 2, 0, 48), (33, .putfield 23, 3, 0, 0), (36, .aload_n 0, 1, 0, 0), (37, .bipush 16, 2, 16, 0), (39, .newarray .boolean, 2, 0, 16), (41, .putfield 26, 3, 0, 0), (44, .aload_n 0, 1, 0, 0), (45, .iconst (-1), 1, (-1), 0), (46, .putfield 30, 3, 0, 0), (49, .return_, 1, 0, 0)]
theorem tX5_init_ok : (tX5_init.all (q_okI cX5_init)) = true := by decide +kernel

abbrev fdX5_init : List (Nat ⊕ (Nat × Nat)) := [.inl 0]
def spX5_init : q_P := fun a w K => w = [.inr (5, [.null, .null, .null, .null, .null, .int 0, .int 0])] ∧ a = [.ref 0] ∧ K (.inl none) (loadsW 0 zST)
abbrev csX5_init : q_S := (1, 97, 1, 1, 5, 91, fdX5_init, spX5_init)
def EX5_init : q_E := (tX5_init, [], 1, flX5, [], [], [], [], [], [], 1, 5, 91, none, [], [], 3, 6)
theorem okX5_init (l : Launch) : q_Eok l RX5 cX5_init EX5_init := ⟨tX5_init_ok, flX5_ok, q_nil, q_nil, q_nil, q_nil, q_nil, q_nil, fun _ => q_G_i 383 (by decide +kernel) rfl⟩
set_option maxRecDepth 100000 in
set_option maxHeartbeats 4000000 in
theorem ctX5_init (l : Launch) : q_CT l yX5_init (.code yX5_init cX5_init 1 none) 1 5 91 spX5_init := by
  refine q_ct_of EX5_init (by decide +kernel) (okX5_init l) rfl rfl rfl rfl rfl q_nil (fun ci h => by cases h; exact ⟨rfl, rfl⟩) rfl ?_
  intro a w K h
  obtain ⟨rfl, rfl, hK⟩ := h
  refine ⟨Nat.le_of_ble_eq_true rfl, fun C hC => hC _ _ _ _ _ _ ?_⟩
  exact ⟨⟨rfl, by decide, by decide, by decide⟩, ⟨rfl, by decide, by decide, by decide⟩, ⟨rfl, by decide, by decide, by decide⟩, ⟨rfl, by decide, by decide, by decide⟩, ⟨rfl, by decide, by decide, by decide⟩, hK⟩
def tX6_init : List q_I := [(0, .aload_n 0, 1, 0, 0), (1, .invokespecial 3, 3, 0, 0), (4, .aload_n 0, 1, 0, 0), (5, .bipush 30, 2, 30, 0), (7, .newarray .int, 2, 0, 30), (9, .putfield 11, 3, 0, 0), (12, .aload_n 0, 1, 0, 0), (13, .bipush 30, 2, 30, 0), (15, .newarray .int, 2, 0, 30), (17, .putfield 15, 3, 0, 0), (20, .aload_n 0, 1, 0, 0), (21, .sipush 240, 3, 240, 0), (24, .newarray .int, 2, 0, 240), (26, .putfield 18, 3, 0, 0), (29, .aload_n 0, 1, 0, 0), (30, .sipush 240, 3, 240, 0), (33, .newarray .int, 2, 0, 240), (35, .putfield 21, 3, 0, 0), (38, .aload_n 0, 1, 0, 0), (39, .sipush 240, 3, 240, 0), (42, .newarray .int, 2, 0, 240), (44, .putfield 24, 3, 0, 0), (47, .aload_n 0, 1, 0, 0), (48, .sipush 240, 3, 240, 0), (51, .newarray .int, 2, 0, 240), (53, .putfield 27, 3, 0, 0), (56, .return_, 1, 0, 0)]
theorem tX6_init_ok : (tX6_init.all (q_okI cX6_init)) = true := by decide +kernel

abbrev fdX6_init : List (Nat ⊕ (Nat × Nat)) := [.inl 0]
def spX6_init : q_P := fun a w K => w = [.inr (6, [.null, .null, .null, .null, .null, .null, .int 0])] ∧ a = [.ref 0] ∧ K (.inl none) (peopleW 0 zPT)
abbrev csX6_init : q_S := (1, 97, 1, 1, 6, 1020, fdX6_init, spX6_init)
def EX6_init : q_E := (tX6_init, [], 1, flX6, [], [], [], [], [], [], 1, 6, 1020, none, [], [], 3, 7)
theorem okX6_init (l : Launch) : q_Eok l RX6 cX6_init EX6_init := ⟨tX6_init_ok, flX6_ok, q_nil, q_nil, q_nil, q_nil, q_nil, q_nil, fun _ => q_G_i 316 (by decide +kernel) rfl⟩
set_option maxRecDepth 100000 in
set_option maxHeartbeats 4000000 in
theorem ctX6_init (l : Launch) : q_CT l yX6_init (.code yX6_init cX6_init 1 none) 1 6 1020 spX6_init := by
  refine q_ct_of EX6_init (by decide +kernel) (okX6_init l) rfl rfl rfl rfl rfl q_nil (fun ci h => by cases h; exact ⟨rfl, rfl⟩) rfl ?_
  intro a w K h
  obtain ⟨rfl, rfl, hK⟩ := h
  refine ⟨Nat.le_of_ble_eq_true rfl, fun C hC => hC _ _ _ _ _ _ ?_⟩
  exact ⟨⟨rfl, by decide, by decide, by decide⟩, ⟨rfl, by decide, by decide, by decide⟩, ⟨rfl, by decide, by decide, by decide⟩, ⟨rfl, by decide, by decide, by decide⟩, ⟨rfl, by decide, by decide, by decide⟩, ⟨rfl, by decide, by decide, by decide⟩, hK⟩
def tX1_init : List q_I := [(0, .aload_n 0, 1, 0, 0), (1, .invokespecial 3, 3, 0, 0), (4, .aload_n 0, 1, 0, 0), (5, .bipush 20, 2, 20, 0), (7, .newarray .int, 2, 0, 20), (9, .putfield 11, 3, 0, 0), (12, .aload_n 0, 1, 0, 0), (13, .bipush 20, 2, 20, 0), (15, .newarray .int, 2, 0, 20), (17, .putfield 15, 3, 0, 0), (20, .aload_n 0, 1, 0, 0), (21, .bipush 20, 2, 20, 0), (23, .newarray .int, 2, 0, 20), (25, .putfield 18, 3, 0, 0), (28, .aload_n 0, 1, 0, 0), (29, .bipush 20, 2, 20, 0), (31, .newarray .int, 2, 0, 20), (33, .putfield 21, 3, 0, 0), (36, .aload_n 0, 1, 0, 0), (37, .bipush 20, 2, 20, 0), (39, .newarray .int, 2, 0, 20), (41, .putfield 24, 3, 0, 0), (44, .aload_n 0, 1, 0, 0), (45, .bipush 20, 2, 20, 0), (47, .newarray .int, 2, 0, 20), (49, .putfield 27, 3, 0, 0), (52, .aload_n 0, 1, 0, 0), (53, .iconst 5, 1, 5, 0), (54, .newarray .int, 2, 0, 5), (56, .putfield 30, 3, 0, 0), (59, .return_, 1, 0, 0)]
theorem tX1_init_ok : (tX1_init.all (q_okI cX1_init)) = true := by decide +kernel

abbrev fdX1_init : List (Nat ⊕ (Nat × Nat)) := [.inl 0]
def spX1_init : q_P := fun a w K => w = [.inr (1, [.null, .null, .null, .null, .null, .null, .null, .int 0])] ∧ a = [.ref 0] ∧ K (.inl none) (courtW 0 zCT)
abbrev csX1_init : q_S := (1, 97, 1, 1, 7, 125, fdX1_init, spX1_init)
def EX1_init : q_E := (tX1_init, [], 1, flX1, [], [], [], [], [], [], 1, 7, 125, none, [], [], 3, 2)
theorem okX1_init (l : Launch) : q_Eok l RX1 cX1_init EX1_init := ⟨tX1_init_ok, flX1_ok, q_nil, q_nil, q_nil, q_nil, q_nil, q_nil, fun _ => q_G_i 413 (by decide +kernel) rfl⟩
set_option maxRecDepth 100000 in
set_option maxHeartbeats 4000000 in
theorem ctX1_init (l : Launch) : q_CT l yX1_init (.code yX1_init cX1_init 1 none) 1 7 125 spX1_init := by
  refine q_ct_of EX1_init (by decide +kernel) (okX1_init l) rfl rfl rfl rfl rfl q_nil (fun ci h => by cases h; exact ⟨rfl, rfl⟩) rfl ?_
  intro a w K h
  obtain ⟨rfl, rfl, hK⟩ := h
  refine ⟨Nat.le_of_ble_eq_true rfl, fun C hC => hC _ _ _ _ _ _ ?_⟩
  exact ⟨⟨rfl, by decide, by decide, by decide⟩, ⟨rfl, by decide, by decide, by decide⟩, ⟨rfl, by decide, by decide, by decide⟩, ⟨rfl, by decide, by decide, by decide⟩, ⟨rfl, by decide, by decide, by decide⟩, ⟨rfl, by decide, by decide, by decide⟩, ⟨rfl, by decide, by decide, by decide⟩, hK⟩
def tX9_init : List q_I := [(0, .aload_n 0, 1, 0, 0), (1, .invokespecial 3, 3, 0, 0), (4, .aload_n 0, 1, 0, 0), (5, .bipush 9, 2, 9, 0), (7, .newarray .int, 2, 0, 9), (9, .putfield 11, 3, 0, 0), (12, .aload_n 0, 1, 0, 0), (13, .bipush 36, 2, 36, 0), (15, .newarray .int, 2, 0, 36), (17, .putfield 15, 3, 0, 0), (20, .aload_n 0, 1, 0, 0), (21, .bipush 16, 2, 16, 0), (23, .newarray .int, 2, 0, 16), (25, .putfield 18, 3, 0, 0), (28, .aload_n 0, 1, 0, 0), (29, .bipush 36, 2, 36, 0), (31, .newarray .int, 2, 0, 36), (33, .putfield 21, 3, 0, 0), (36, .aload_n 0, 1, 0, 0), (37, .bipush 9, 2, 9, 0), (39, .newarray .int, 2, 0, 9), (41, .putfield 24, 3, 0, 0), (44, .aload_n 0, 1, 0, 0), (45, .bipush 9, 2, 9, 0), (47, .newarray .int, 2, 0, 9), (49, .putfield 27, 3, 0, 0), (52, .aload_n 0, 1, 0, 0), (53, .iconst 1, 1, 1, 0), (54, .putfield 30, 3, 0, 0), (57, .return_, 1, 0, 0)]
theorem tX9_init_ok : (tX9_init.all (q_okI cX9_init)) = true := by decide +kernel

abbrev fdX9_init : List (Nat ⊕ (Nat × Nat)) := [.inl 0]
def spX9_init : q_P := fun a w K => w = [.inr (9, [.null, .null, .null, .null, .null, .null, .int 0, .int 0, .int 0])] ∧ a = [.ref 0] ∧ K (.inl none) (treatyW 0 zYT)
abbrev csX9_init : q_S := (1, 97, 1, 1, 6, 115, fdX9_init, spX9_init)
def EX9_init : q_E := (tX9_init, [], 1, flX9, [], [], [], [], [], [], 1, 6, 115, none, [], [], 3, 10)
theorem okX9_init (l : Launch) : q_Eok l RX9 cX9_init EX9_init := ⟨tX9_init_ok, flX9_ok, q_nil, q_nil, q_nil, q_nil, q_nil, q_nil, fun _ => q_G_i 445 (by decide +kernel) rfl⟩
set_option maxRecDepth 100000 in
set_option maxHeartbeats 4000000 in
theorem ctX9_init (l : Launch) : q_CT l yX9_init (.code yX9_init cX9_init 1 none) 1 6 115 spX9_init := by
  refine q_ct_of EX9_init (by decide +kernel) (okX9_init l) rfl rfl rfl rfl rfl q_nil (fun ci h => by cases h; exact ⟨rfl, rfl⟩) rfl ?_
  intro a w K h
  obtain ⟨rfl, rfl, hK⟩ := h
  refine ⟨Nat.le_of_ble_eq_true rfl, fun C hC => hC _ _ _ _ _ _ ?_⟩
  exact ⟨⟨rfl, by decide, by decide, by decide⟩, ⟨rfl, by decide, by decide, by decide⟩, ⟨rfl, by decide, by decide, by decide⟩, ⟨rfl, by decide, by decide, by decide⟩, ⟨rfl, by decide, by decide, by decide⟩, ⟨rfl, by decide, by decide, by decide⟩, rfl, hK⟩
def tX0_init : List q_I := [(0, .aload_n 0, 1, 0, 0), (1, .invokespecial 3, 3, 0, 0), (4, .aload_n 0, 1, 0, 0), (5, .iconst 4, 1, 4, 0), (6, .newarray .int, 2, 0, 4), (8, .putfield 9, 3, 0, 0), (11, .aload_n 0, 1, 0, 0), (12, .bipush 25, 2, 25, 0), (14, .newarray .long, 2, 0, 25), (16, .putfield 15, 3, 0, 0), (19, .aload_n 0, 1, 0, 0), (20, .bipush 25, 2, 25, 0), (22, .newarray .int, 2, 0, 25), (24, .putfield 19, 3, 0, 0), (27, .aload_n 0, 1, 0, 0), (28, .bipush 25, 2, 25, 0), (30, .newarray .int, 2, 0, 25), (32, .putfield 22, 3, 0, 0), (35, .aload_n 0, 1, 0, 0), (36, .new 25, 3, 0, 0), (39, .dup, 1, 0, 0), (40, .invokespecial 27, 3, 0, 0), (43, .putfield 28, 3, 0, 0), (46, .aload_n 0, 1, 0, 0), (47, .new 32, 3, 0, 0), (50, .dup, 1, 0, 0), (51, .invokespecial 34, 3, 0, 0), (54, .putfield 35, 3, 0, 0), (57, .aload_n 0, 1, 0, 0), (58, .new 39, 3, 0, 0), (61, .dup, 1, 0, 0), (62, .invokespecial 41, 3, 0, 0), (65, .putfield 42, 3, 0, 0), (68, .return_, 1, 0, 0)]
theorem tX0_init_ok : (tX0_init.all (q_okI cX0_init)) = true := by decide +kernel

abbrev fdX0_init : List (Nat ⊕ (Nat × Nat)) := [.inl 0]
def spX0_init : q_P := fun a w K => w = [.inr (0, [.null, .null, .null, .null, .int 0, .null, .null, .null])] ∧ a = [.ref 0] ∧ K (.inl none) (bookW 0 zBT zRT zLT zGT)
abbrev csX0_init : q_S := (1, 97, 2, 1, 29, 616, fdX0_init, spX0_init)
theorem coX0_27 (l : Launch) : q_CO l RX0 27 csX8_init := ⟨yX8_init, cX8_init, none, 0, ⟨by decide +kernel, by decide +kernel, by decide +kernel⟩, q_G_i 3 (by decide +kernel) rfl, Or.inr (Or.inl ⟨rfl, rfl, rfl, rfl, Or.inr ⟨"BridgeStrip", q_nest_i 42 (by decide +kernel) rfl⟩, q_G_i 43 (by decide +kernel) rfl, q_G_i 44 (by decide +kernel) rfl, ctX8_init l⟩)⟩
theorem coX0_34 (l : Launch) : q_CO l RX0 34 csX3_init := ⟨yX3_init, cX3_init, none, 0, ⟨by decide +kernel, by decide +kernel, by decide +kernel⟩, q_G_i 4 (by decide +kernel) rfl, Or.inr (Or.inl ⟨rfl, rfl, rfl, rfl, Or.inr ⟨"BridgeStrip", q_nest_i 90 (by decide +kernel) rfl⟩, q_G_i 91 (by decide +kernel) rfl, q_G_i 92 (by decide +kernel) rfl, ctX3_init l⟩)⟩
theorem coX0_41 (l : Launch) : q_CO l RX0 41 csX2_init := ⟨yX2_init, cX2_init, none, 0, ⟨by decide +kernel, by decide +kernel, by decide +kernel⟩, q_G_i 5 (by decide +kernel) rfl, Or.inr (Or.inl ⟨rfl, rfl, rfl, rfl, Or.inr ⟨"BridgeStrip", q_nest_i 124 (by decide +kernel) rfl⟩, q_G_i 125 (by decide +kernel) rfl, q_G_i 126 (by decide +kernel) rfl, ctX2_init l⟩)⟩
def EX0_init : q_E := (tX0_init, [], 1, flX0, [(27, csX8_init), (34, csX3_init), (41, csX2_init)], [], [], [], [], [], 2, 29, 616, none, [], [(25, 8), (32, 3), (39, 2)], 3, 1)
theorem okX0_init (l : Launch) : q_Eok l RX0 cX0_init EX0_init := ⟨tX0_init_ok, flX0_ok, List.forall_mem_cons.mpr ⟨(coX0_27 l), List.forall_mem_cons.mpr ⟨(coX0_34 l), List.forall_mem_cons.mpr ⟨(coX0_41 l), q_nil⟩⟩⟩, q_nil, q_nil, q_nil, q_nil, List.forall_mem_cons.mpr ⟨⟨_, _, _, rfl, rfl, q_G_i 40 (by decide +kernel) rfl, q_G_i 41 (by decide +kernel) rfl, q_G_i 3 (by decide +kernel) rfl⟩, List.forall_mem_cons.mpr ⟨⟨_, _, _, rfl, rfl, q_G_i 88 (by decide +kernel) rfl, q_G_i 89 (by decide +kernel) rfl, q_G_i 4 (by decide +kernel) rfl⟩, List.forall_mem_cons.mpr ⟨⟨_, _, _, rfl, rfl, q_G_i 122 (by decide +kernel) rfl, q_G_i 123 (by decide +kernel) rfl, q_G_i 5 (by decide +kernel) rfl⟩, q_nil⟩⟩⟩, fun _ => q_G_i 39 (by decide +kernel) rfl⟩
set_option maxRecDepth 100000 in
set_option maxHeartbeats 4000000 in
theorem ctX0_init (l : Launch) : q_CT l yX0_init (.code yX0_init cX0_init 1 none) 2 29 616 spX0_init := by
  refine q_ct_of EX0_init (by decide +kernel) (okX0_init l) rfl rfl rfl rfl rfl q_nil (fun ci h => by cases h; exact ⟨rfl, rfl⟩) rfl ?_
  intro a w K h
  obtain ⟨rfl, rfl, hK⟩ := h
  refine ⟨Nat.le_of_ble_eq_true rfl, fun C hC => hC _ _ _ _ _ _ ?_⟩
  exact ⟨⟨rfl, by decide, by decide, by decide⟩, ⟨rfl, by decide, by decide, by decide⟩, ⟨rfl, by decide, by decide, by decide⟩, ⟨rfl, by decide, by decide, by decide⟩, ⟨by decide, by decide⟩, ⟨by decide, by decide⟩, rfl, rfl, ⟨by decide, by decide⟩, ⟨by decide, by decide⟩, rfl, rfl, ⟨by decide, by decide⟩, ⟨by decide, by decide⟩, rfl, rfl, hK⟩
def tX7_init : List q_I := [(0, .aload_n 0, 1, 0, 0), (1, .invokespecial 3, 3, 0, 0), (4, .aload_n 0, 1, 0, 0), (5, .bipush 10, 2, 10, 0), (7, .newarray .long, 2, 0, 10), (9, .dup, 1, 0, 0), (10, .iconst 0, 1, 0, 0), (11, .ldc 9, 2, 0, 0), (13, .invokestatic 11, 3, 0, 0), (16, .lastore, 1, 0, 0), (17, .dup, 1, 0, 0), (18, .iconst 1, 1, 1, 0), (19, .ldc 17, 2, 0, 0), (21, .invokestatic 11, 3, 0, 0), (24, .lastore, 1, 0, 0), (25, .dup, 1, 0, 0), (26, .iconst 2, 1, 2, 0), (27, .ldc 19, 2, 0, 0), (29, .invokestatic 11, 3, 0, 0), (32, .lastore, 1, 0, 0), (33, .dup, 1, 0, 0), (34, .iconst 3, 1, 3, 0), (35, .ldc 21, 2, 0, 0), (37, .invokestatic 11, 3, 0, 0), (40, .lastore, 1, 0, 0), (41, .dup, 1, 0, 0), (42, .iconst 4, 1, 4, 0), (43, .ldc 23, 2, 0, 0), (45, .invokestatic 11, 3, 0, 0), (48, .lastore, 1, 0, 0), (49, .dup, 1, 0, 0), (50, .iconst 5, 1, 5, 0), (51, .ldc 25, 2, 0, 0), (53, .invokestatic 11, 3, 0, 0), (56, .lastore, 1, 0, 0), (57, .dup, 1, 0, 0), (58, .bipush 6, 2, 6, 0), (60, .ldc 27, 2, 0, 0), (62, .invokestatic 11, 3, 0, 0), (65, .lastore, 1, 0, 0), (66, .dup, 1, 0, 0), (67, .bipush 7, 2, 7, 0), (69, .ldc 29, 2, 0, 0), (71, .invokestatic 11, 3, 0, 0), (74, .lastore, 1, 0, 0), (75, .dup, 1, 0, 0), (76, .bipush 8, 2, 8, 0), (78, .ldc 31, 2, 0, 0), (80, .invokestatic 11, 3, 0, 0), (83, .lastore, 1, 0, 0), (84, .dup, 1, 0, 0), (85, .bipush 9, 2, 9, 0), (87, .ldc 33, 2, 0, 0), (89, .invokestatic 11, 3, 0, 0), (92, .lastore, 1, 0, 0), (93, .putfield 35, 3, 0, 0), (96, .aload_n 0, 1, 0, 0), (97, .aload_n 1, 1, 0, 0), (98, .putfield 39, 3, 0, 0), (101, .aload_n 0, 1, 0, 0), (102, .aload_n 2, 1, 0, 0), (103, .putfield 43, 3, 0, 0), (106, .return_, 1, 0, 0)]
theorem tX7_init_ok : (tX7_init.all (q_okI cX7_init)) = true := by decide +kernel

abbrev fdX7_init : List (Nat ⊕ (Nat × Nat)) := [.inl 0, .inl 1, .inl 2]
def spX7_init : q_P := fun a w K => ∃ (tx : Nat → Int32) (m : Int32), w = [.inr (7, [.int 0, .int 0, .null, .null, .int 0, .null, .int 0, .int 0, .int 0, .int 0, .int 0, .long 0, .int 0]), .inl (0, 700, .inl tx), .inr (0, [tk 2 0, tk 2 1, tk 2 2, tk 2 3, .int m, tk 2 5, tk 2 6, tk 2 7])] ∧ a = [.ref 0, .ref 1, .ref 2] ∧ K (.inl none) [.inr (7, [.int 0, .int 0, .ref 3, .ref 1, .int 0, .ref 2, .int 0, .int 0, .int 0, .int 0, .int 0, .long 0, .int 0]), .inl (0, 700, .inl tx), .inr (0, [tk 2 0, tk 2 1, tk 2 2, tk 2 3, .int m, tk 2 5, tk 2 6, tk 2 7]), .inl (2, 10, .inr rsv)]
abbrev csX7_init : q_S := (3, 97, 5, 3, 1, 10, fdX7_init, spX7_init)
theorem coX7_11 (l : Launch) : q_CO l RX7 11 csX7_numberOf := ⟨yX7_numberOf, cX7_numberOf, (some .long), 1, ⟨by decide +kernel, by decide +kernel, by decide +kernel⟩, q_G_i 6 (by decide +kernel) rfl, Or.inr (Or.inr (Or.inr ⟨rfl, rfl, q_G_i 208 (by decide +kernel) rfl, q_G_i 209 (by decide +kernel) rfl, Or.inl ⟨q_G_i 210 (by decide +kernel) rfl, ctX7_numberOf l⟩⟩))⟩
def EX7_init : q_E := (tX7_init, [], 3, flX7, [(11, csX7_numberOf)], [], [], [(25, 0), (9, 1), (17, 2), (19, 3), (21, 4), (23, 5), (27, 6), (29, 7), (31, 8), (33, 9)], [], [], 5, 1, 10, none, [], [], 3, 8)
theorem okX7_init (l : Launch) : q_Eok l RX7 cX7_init EX7_init := ⟨tX7_init_ok, flX7_ok, List.forall_mem_cons.mpr ⟨(coX7_11 l), q_nil⟩, q_nil, q_nil, List.forall_mem_cons.mpr ⟨⟨_, rfl, rfl, rfl⟩, List.forall_mem_cons.mpr ⟨⟨_, rfl, rfl, rfl⟩, List.forall_mem_cons.mpr ⟨⟨_, rfl, rfl, rfl⟩, List.forall_mem_cons.mpr ⟨⟨_, rfl, rfl, rfl⟩, List.forall_mem_cons.mpr ⟨⟨_, rfl, rfl, rfl⟩, List.forall_mem_cons.mpr ⟨⟨_, rfl, rfl, rfl⟩, List.forall_mem_cons.mpr ⟨⟨_, rfl, rfl, rfl⟩, List.forall_mem_cons.mpr ⟨⟨_, rfl, rfl, rfl⟩, List.forall_mem_cons.mpr ⟨⟨_, rfl, rfl, rfl⟩, List.forall_mem_cons.mpr ⟨⟨_, rfl, rfl, rfl⟩, q_nil⟩⟩⟩⟩⟩⟩⟩⟩⟩⟩, q_nil, q_nil, fun _ => q_G_i 206 (by decide +kernel) rfl⟩
set_option maxRecDepth 100000 in
set_option maxHeartbeats 4000000 in
theorem ctX7_init (l : Launch) : q_CT l yX7_init (.code yX7_init cX7_init 3 none) 5 1 10 spX7_init := by
  refine q_ct_of EX7_init (by decide +kernel) (okX7_init l) rfl rfl rfl rfl rfl q_nil (fun ci h => by cases h; exact ⟨rfl, rfl⟩) rfl ?_
  intro a w K h
  obtain ⟨tx, m, rfl, rfl, hK⟩ := h
  refine ⟨Nat.le_of_ble_eq_true rfl, fun C hC => hC _ _ _ _ _ _ ?_⟩
  exact ⟨⟨rfl, by decide, by decide, by decide⟩, by decide, 1, _, rfl, rfl, rfl, (by unfold vp_in; decide), by decide, 2, _, rfl, rfl, rfl, (by unfold vp_in; decide), by decide, 3, _, rfl, rfl, rfl, (by unfold vp_in; decide), by decide, 4, _, rfl, rfl, rfl, (by unfold vp_in; decide), by decide, 5, _, rfl, rfl, rfl, (by unfold vp_in; decide), by decide, 0, _, rfl, rfl, rfl, (by unfold vp_in; decide), by decide, 6, _, rfl, rfl, rfl, (by unfold vp_in; decide), by decide, 7, _, rfl, rfl, rfl, (by unfold vp_in; decide), by decide, 8, _, rfl, rfl, rfl, (by unfold vp_in; decide), by decide, 9, _, rfl, rfl, rfl, (by unfold vp_in; decide), hK⟩
def tX10_init : List q_I := [(0, .aload_n 0, 1, 0, 0), (1, .invokespecial 3, 3, 0, 0), (4, .aload_n 0, 1, 0, 0), (5, .bipush 8, 2, 8, 0), (7, .newarray .int, 2, 0, 8), (9, .putfield 11, 3, 0, 0), (12, .aload_n 0, 1, 0, 0), (13, .bipush 8, 2, 8, 0), (15, .newarray .int, 2, 0, 8), (17, .putfield 15, 3, 0, 0), (20, .aload_n 0, 1, 0, 0), (21, .bipush 8, 2, 8, 0), (23, .newarray .int, 2, 0, 8), (25, .putfield 18, 3, 0, 0), (28, .aload_n 0, 1, 0, 0), (29, .bipush 8, 2, 8, 0), (31, .newarray .boolean, 2, 0, 8), (33, .putfield 21, 3, 0, 0), (36, .aload_n 0, 1, 0, 0), (37, .bipush 48, 2, 48, 0), (39, .newarray .boolean, 2, 0, 48), (41, .putfield 27, 3, 0, 0), (44, .aload_n 0, 1, 0, 0), (45, .bipush 16, 2, 16, 0), (47, .newarray .boolean, 2, 0, 16), (49, .putfield 30, 3, 0, 0), (52, .aload_n 0, 1, 0, 0), (53, .aload_n 1, 1, 0, 0), (54, .putfield 33, 3, 0, 0), (57, .return_, 1, 0, 0)]
theorem tX10_init_ok : (tX10_init.all (q_okI cX10_init)) = true := by decide +kernel

abbrev fdX10_init : List (Nat ⊕ (Nat × Nat)) := [.inl 0, .inl 1]
def spX10_init : q_P := fun a w K => ∃ (n : Int32), w = [.inr (10, [.null, .null, .null, .null, .null, .null, .null]), .inr (6, [tk 1 0, tk 1 1, tk 1 2, tk 1 3, tk 1 4, tk 1 5, .int n])] ∧ a = [.ref 0, .ref 1] ∧ K (.inl none) ([.inr (10, [.ref 1, .ref 2, .ref 3, .ref 4, .ref 5, .ref 6, .ref 7]), .inr (6, [tk 1 0, tk 1 1, tk 1 2, tk 1 3, tk 1 4, tk 1 5, .int n]), .inl (1, 8, .inl (fun _ => 0)), .inl (1, 8, .inl (fun _ => 0)), .inl (1, 8, .inl (fun _ => 0)), .inl (3, 8, .inl (fun _ => 0)), .inl (3, 48, .inl (fun _ => 0)), .inl (3, 16, .inl (fun _ => 0))])
abbrev csX10_init : q_S := (2, 97, 1, 2, 6, 96, fdX10_init, spX10_init)
def EX10_init : q_E := (tX10_init, [], 2, flX10, [], [], [], [], [], [], 1, 6, 96, none, [], [], 3, 11)
theorem okX10_init (l : Launch) : q_Eok l RX10 cX10_init EX10_init := ⟨tX10_init_ok, flX10_ok, q_nil, q_nil, q_nil, q_nil, q_nil, q_nil, fun _ => q_G_i 353 (by decide +kernel) rfl⟩
set_option maxRecDepth 100000 in
set_option maxHeartbeats 4000000 in
theorem ctX10_init (l : Launch) : q_CT l yX10_init (.code yX10_init cX10_init 2 none) 1 6 96 spX10_init := by
  refine q_ct_of EX10_init (by decide +kernel) (okX10_init l) rfl rfl rfl rfl rfl q_nil (fun ci h => by cases h; exact ⟨rfl, rfl⟩) rfl ?_
  intro a w K h
  obtain ⟨n, rfl, rfl, hK⟩ := h
  refine ⟨Nat.le_of_ble_eq_true rfl, fun C hC => hC _ _ _ _ _ _ ?_⟩
  exact ⟨⟨rfl, by decide, by decide, by decide⟩, ⟨rfl, by decide, by decide, by decide⟩, ⟨rfl, by decide, by decide, by decide⟩, ⟨rfl, by decide, by decide, by decide⟩, ⟨rfl, by decide, by decide, by decide⟩, ⟨rfl, by decide, by decide, by decide⟩, hK⟩
def tX11_init : List q_I := [(0, .aload_n 0, 1, 0, 0), (1, .invokespecial 1, 3, 0, 0), (4, .aload_n 0, 1, 0, 0), (5, .sipush 700, 3, 700, 0), (8, .newarray .byte, 2, 0, 700), (10, .putfield 9, 3, 0, 0), (13, .aload_n 0, 1, 0, 0), (14, .new 13, 3, 0, 0), (17, .dup, 1, 0, 0), (18, .invokespecial 15, 3, 0, 0), (21, .putfield 16, 3, 0, 0), (24, .aload_n 0, 1, 0, 0), (25, .new 13, 3, 0, 0), (28, .dup, 1, 0, 0), (29, .invokespecial 15, 3, 0, 0), (32, .putfield 20, 3, 0, 0), (35, .aload_n 0, 1, 0, 0), (36, .new 23, 3, 0, 0), (39, .dup, 1, 0, 0), (40, .aload_n 0, 1, 0, 0), (41, .getfield 9, 3, 0, 0), (44, .aload_n 0, 1, 0, 0), (45, .getfield 20, 3, 0, 0), (48, .invokespecial 25, 3, 0, 0), (51, .putfield 28, 3, 0, 0), (54, .aload_n 0, 1, 0, 0), (55, .new 32, 3, 0, 0), (58, .dup, 1, 0, 0), (59, .invokespecial 34, 3, 0, 0), (62, .putfield 35, 3, 0, 0), (65, .aload_n 0, 1, 0, 0), (66, .new 39, 3, 0, 0), (69, .dup, 1, 0, 0), (70, .aload_n 0, 1, 0, 0), (71, .getfield 35, 3, 0, 0), (74, .invokespecial 41, 3, 0, 0), (77, .putfield 44, 3, 0, 0), (80, .aload_n 0, 1, 0, 0), (81, .new 48, 3, 0, 0), (84, .dup, 1, 0, 0), (85, .invokespecial 50, 3, 0, 0), (88, .putfield 51, 3, 0, 0), (91, .aload_n 0, 1, 0, 0), (92, .new 55, 3, 0, 0), (95, .dup, 1, 0, 0), (96, .invokespecial 57, 3, 0, 0), (99, .putfield 58, 3, 0, 0), (102, .aload_n 0, 1, 0, 0), (103, .new 62, 3, 0, 0), (106, .dup, 1, 0, 0), (107, .invokespecial 64, 3, 0, 0), (110, .putfield 65, 3, 0, 0), (113, .aload_n 0, 1, 0, 0), (114, .new 69, 3, 0, 0), (117, .dup, 1, 0, 0), (118, .invokespecial 71, 3, 0, 0), (121, .putfield 72, 3, 0, 0), (124, .return_, 1, 0, 0)]
theorem tX11_init_ok : (tX11_init.all (q_okI cX11_init)) = true := by decide +kernel

abbrev fdX11_init : List (Nat ⊕ (Nat × Nat)) := [.inl 0]
def spX11_init : q_P := fun a w K => w = [.inr (11, [.null, .int 0, .null, .null, .null, .int 0, .int 0, .null, .null, .null, .null, .null, .null, .int 0, .int 0])] ∧ a = [.ref 0] ∧ K (.inl none) (stripW 0 0 false 0 0 0 (fun _ => 0) (.ref 32) zNT zBT zRT zLT zGT zBT zRT zLT zGT zPT zWT zST zCT zYT zDT)
abbrev csX11_init : q_S := (1, 97, 6, 1, 102, 3510, fdX11_init, spX11_init)
theorem coX11_15 (l : Launch) : q_CO l RX11 15 csX0_init := ⟨yX0_init, cX0_init, none, 0, ⟨by decide +kernel, by decide +kernel, by decide +kernel⟩, q_G_i 2 (by decide +kernel) rfl, Or.inr (Or.inl ⟨rfl, rfl, rfl, rfl, Or.inr ⟨"BridgeStrip", q_nest_i 36 (by decide +kernel) rfl⟩, q_G_i 37 (by decide +kernel) rfl, q_G_i 38 (by decide +kernel) rfl, ctX0_init l⟩)⟩
theorem coX11_25 (l : Launch) : q_CO l RX11 25 csX7_init := ⟨yX7_init, cX7_init, none, 2, ⟨by decide +kernel, by decide +kernel, by decide +kernel⟩, q_G_i 6 (by decide +kernel) rfl, Or.inr (Or.inl ⟨rfl, rfl, rfl, rfl, Or.inl (q_G_i 203 (by decide +kernel) rfl), q_G_i 204 (by decide +kernel) rfl, q_G_i 205 (by decide +kernel) rfl, ctX7_init l⟩)⟩
theorem coX11_34 (l : Launch) : q_CO l RX11 34 csX6_init := ⟨yX6_init, cX6_init, none, 0, ⟨by decide +kernel, by decide +kernel, by decide +kernel⟩, q_G_i 11 (by decide +kernel) rfl, Or.inr (Or.inl ⟨rfl, rfl, rfl, rfl, Or.inr ⟨"BridgeStrip", q_nest_i 313 (by decide +kernel) rfl⟩, q_G_i 314 (by decide +kernel) rfl, q_G_i 315 (by decide +kernel) rfl, ctX6_init l⟩)⟩
theorem coX11_41 (l : Launch) : q_CO l RX11 41 csX10_init := ⟨yX10_init, cX10_init, none, 1, ⟨by decide +kernel, by decide +kernel, by decide +kernel⟩, q_G_i 12 (by decide +kernel) rfl, Or.inr (Or.inl ⟨rfl, rfl, rfl, rfl, Or.inl (q_G_i 350 (by decide +kernel) rfl), q_G_i 351 (by decide +kernel) rfl, q_G_i 352 (by decide +kernel) rfl, ctX10_init l⟩)⟩
theorem coX11_50 (l : Launch) : q_CO l RX11 50 csX5_init := ⟨yX5_init, cX5_init, none, 0, ⟨by decide +kernel, by decide +kernel, by decide +kernel⟩, q_G_i 13 (by decide +kernel) rfl, Or.inr (Or.inl ⟨rfl, rfl, rfl, rfl, Or.inr ⟨"BridgeStrip", q_nest_i 380 (by decide +kernel) rfl⟩, q_G_i 381 (by decide +kernel) rfl, q_G_i 382 (by decide +kernel) rfl, ctX5_init l⟩)⟩
theorem coX11_57 (l : Launch) : q_CO l RX11 57 csX1_init := ⟨yX1_init, cX1_init, none, 0, ⟨by decide +kernel, by decide +kernel, by decide +kernel⟩, q_G_i 14 (by decide +kernel) rfl, Or.inr (Or.inl ⟨rfl, rfl, rfl, rfl, Or.inr ⟨"BridgeStrip", q_nest_i 410 (by decide +kernel) rfl⟩, q_G_i 411 (by decide +kernel) rfl, q_G_i 412 (by decide +kernel) rfl, ctX1_init l⟩)⟩
theorem coX11_64 (l : Launch) : q_CO l RX11 64 csX9_init := ⟨yX9_init, cX9_init, none, 0, ⟨by decide +kernel, by decide +kernel, by decide +kernel⟩, q_G_i 15 (by decide +kernel) rfl, Or.inr (Or.inl ⟨rfl, rfl, rfl, rfl, Or.inr ⟨"BridgeStrip", q_nest_i 442 (by decide +kernel) rfl⟩, q_G_i 443 (by decide +kernel) rfl, q_G_i 444 (by decide +kernel) rfl, ctX9_init l⟩)⟩
theorem coX11_71 (l : Launch) : q_CO l RX11 71 csX4_init := ⟨yX4_init, cX4_init, none, 0, ⟨by decide +kernel, by decide +kernel, by decide +kernel⟩, q_G_i 16 (by decide +kernel) rfl, Or.inr (Or.inl ⟨rfl, rfl, rfl, rfl, Or.inr ⟨"BridgeStrip", q_nest_i 479 (by decide +kernel) rfl⟩, q_G_i 480 (by decide +kernel) rfl, q_G_i 481 (by decide +kernel) rfl, ctX4_init l⟩)⟩
def EX11_init : q_E := (tX11_init, [], 1, flX11, [(15, csX0_init), (25, csX7_init), (34, csX6_init), (41, csX10_init), (50, csX5_init), (57, csX1_init), (64, csX9_init), (71, csX4_init)], [], [], [], [], [], 6, 102, 3510, none, [], [(13, 0), (23, 7), (32, 6), (39, 10), (48, 5), (55, 1), (62, 9), (69, 4)], 1, 12)
theorem okX11_init (l : Launch) : q_Eok l RX11 cX11_init EX11_init := ⟨tX11_init_ok, flX11_ok, List.forall_mem_cons.mpr ⟨(coX11_15 l), List.forall_mem_cons.mpr ⟨(coX11_25 l), List.forall_mem_cons.mpr ⟨(coX11_34 l), List.forall_mem_cons.mpr ⟨(coX11_41 l), List.forall_mem_cons.mpr ⟨(coX11_50 l), List.forall_mem_cons.mpr ⟨(coX11_57 l), List.forall_mem_cons.mpr ⟨(coX11_64 l), List.forall_mem_cons.mpr ⟨(coX11_71 l), q_nil⟩⟩⟩⟩⟩⟩⟩⟩, q_nil, q_nil, q_nil, q_nil, List.forall_mem_cons.mpr ⟨⟨_, _, _, rfl, rfl, q_G_i 34 (by decide +kernel) rfl, q_G_i 35 (by decide +kernel) rfl, q_G_i 2 (by decide +kernel) rfl⟩, List.forall_mem_cons.mpr ⟨⟨_, _, _, rfl, rfl, q_G_i 201 (by decide +kernel) rfl, q_G_i 202 (by decide +kernel) rfl, q_G_i 6 (by decide +kernel) rfl⟩, List.forall_mem_cons.mpr ⟨⟨_, _, _, rfl, rfl, q_G_i 311 (by decide +kernel) rfl, q_G_i 312 (by decide +kernel) rfl, q_G_i 11 (by decide +kernel) rfl⟩, List.forall_mem_cons.mpr ⟨⟨_, _, _, rfl, rfl, q_G_i 348 (by decide +kernel) rfl, q_G_i 349 (by decide +kernel) rfl, q_G_i 12 (by decide +kernel) rfl⟩, List.forall_mem_cons.mpr ⟨⟨_, _, _, rfl, rfl, q_G_i 378 (by decide +kernel) rfl, q_G_i 379 (by decide +kernel) rfl, q_G_i 13 (by decide +kernel) rfl⟩, List.forall_mem_cons.mpr ⟨⟨_, _, _, rfl, rfl, q_G_i 408 (by decide +kernel) rfl, q_G_i 409 (by decide +kernel) rfl, q_G_i 14 (by decide +kernel) rfl⟩, List.forall_mem_cons.mpr ⟨⟨_, _, _, rfl, rfl, q_G_i 440 (by decide +kernel) rfl, q_G_i 441 (by decide +kernel) rfl, q_G_i 15 (by decide +kernel) rfl⟩, List.forall_mem_cons.mpr ⟨⟨_, _, _, rfl, rfl, q_G_i 477 (by decide +kernel) rfl, q_G_i 478 (by decide +kernel) rfl, q_G_i 16 (by decide +kernel) rfl⟩, q_nil⟩⟩⟩⟩⟩⟩⟩⟩, fun _ => q_G_i 31 (by decide +kernel) rfl⟩
set_option maxRecDepth 100000 in
set_option maxHeartbeats 4000000 in
theorem ctX11_init (l : Launch) : q_CT l yX11_init (.code yX11_init cX11_init 1 none) 6 102 3510 spX11_init := by
  refine q_ct_of EX11_init (by decide +kernel) (okX11_init l) rfl rfl rfl rfl rfl q_nil (fun ci h => by cases h; exact ⟨rfl, rfl⟩) rfl ?_
  intro a w K h
  obtain ⟨rfl, rfl, hK⟩ := h
  refine ⟨Nat.le_of_ble_eq_true rfl, fun C hC => hC _ _ _ _ _ _ ?_⟩
  exact ⟨⟨rfl, by decide, by decide, by decide⟩, ⟨by decide, by decide⟩, ⟨by decide, by decide⟩, rfl, rfl, ⟨by decide, by decide⟩, ⟨by decide, by decide⟩, rfl, rfl, ⟨by decide, by decide⟩, ⟨by decide, by decide⟩, (fun _ => 0), _, rfl, rfl, ⟨by decide, by decide⟩, ⟨by decide, by decide⟩, rfl, rfl, ⟨by decide, by decide⟩, ⟨by decide, by decide⟩, 0, rfl, rfl, ⟨by decide, by decide⟩, ⟨by decide, by decide⟩, rfl, rfl, ⟨by decide, by decide⟩, ⟨by decide, by decide⟩, rfl, rfl, ⟨by decide, by decide⟩, ⟨by decide, by decide⟩, rfl, rfl, ⟨by decide, by decide⟩, ⟨by decide, by decide⟩, rfl, rfl, hK⟩
