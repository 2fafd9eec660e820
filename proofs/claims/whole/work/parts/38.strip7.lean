def perB (P : PT) (x : Int32) : Bool := decide (0 ≤ x ∧ x < nI P.2.2.2.2.2.2)
theorem perI {P : PT} {x : Int32} (ho : pOk P) (h : perB P x = true) : ∃ p, x = nI p ∧ p < P.2.2.2.2.2.2 ∧ (nI p).toNatClampNeg = p := by
  obtain ⟨p, h1, h2⟩ := inI (by have := ho.1; omega) (of_decide_eq_true h)
  exact ⟨p, h1, h2, nI_clamp (by have := ho.1; omega)⟩

def tX11_trouble : List q_I := [(0, .aload_n 0, 1, 0, 0), (1, .getfield 128, 3, 0, 0), (4, .ireturn, 1, 0, 0)]
theorem tX11_trouble_ok : (tX11_trouble.all (q_okI cX11_trouble)) = true := by decide +kernel

abbrev fdX11_trouble : List (Nat ⊕ (Nat × Nat)) := [.inl 0, .inr (0, 0), .inr (0, 2), .inr (2, 0), .inr (2, 1), .inr (2, 2), .inr (2, 3), .inr (2, 5), .inr (7, 0), .inr (7, 1), .inr (7, 2), .inr (7, 3), .inr (7, 4), .inr (7, 5), .inr (7, 6), .inr (2, 6), .inr (15, 0), .inr (15, 1), .inr (15, 2), .inr (15, 3), .inr (15, 4), .inr (15, 5), .inr (15, 6), .inr (2, 7), .inr (23, 0), .inr (23, 1), .inr (23, 2), .inr (23, 3), .inr (23, 4), .inr (23, 5), .inr (23, 6), .inr (23, 7), .inr (0, 3), .inr (32, 0), .inr (32, 1), .inr (32, 2), .inr (32, 3), .inr (32, 5), .inr (37, 0), .inr (37, 1), .inr (37, 2), .inr (37, 3), .inr (37, 4), .inr (37, 5), .inr (37, 6), .inr (32, 6), .inr (45, 0), .inr (45, 1), .inr (45, 2), .inr (45, 3), .inr (45, 4), .inr (45, 5), .inr (45, 6), .inr (32, 7), .inr (53, 0), .inr (53, 1), .inr (53, 2), .inr (53, 3), .inr (53, 4), .inr (53, 5), .inr (53, 6), .inr (53, 7), .inr (0, 4), .inr (62, 2), .inr (0, 7), .inr (64, 0), .inr (64, 1), .inr (64, 2), .inr (64, 3), .inr (64, 4), .inr (64, 5), .inr (0, 8), .inr (71, 1), .inr (71, 2), .inr (71, 3), .inr (71, 4), .inr (71, 5), .inr (71, 6), .inr (0, 9), .inr (78, 0), .inr (78, 1), .inr (78, 2), .inr (78, 3), .inr (78, 4), .inr (0, 10), .inr (84, 0), .inr (84, 1), .inr (84, 2), .inr (84, 3), .inr (84, 4), .inr (84, 5), .inr (84, 6), .inr (0, 11), .inr (92, 0), .inr (92, 1), .inr (92, 2), .inr (92, 3), .inr (92, 4), .inr (92, 5), .inr (0, 12), .inr (99, 0), .inr (99, 1), .inr (99, 2)]
def spX11_trouble : q_P := fun a w K => ∃ (tl : Nat) (hb : Bool) (td : Int32) (tr : Int32) (lf : Int32) (tx : Nat → Int32) (rb : Value) (N : NT) (B : BT) (R : RT) (L : LT) (G : GT) (B2 : BT) (R2 : RT) (L2 : LT) (G2 : GT) (P : PT) (W : WT) (S : ST) (Cc : CT) (Y : YT) (D : DT), w = (stripW 0 tl hb td tr lf tx rb N B R L G B2 R2 L2 G2 P W S Cc Y D) ∧ a = [.ref 0] ∧ K (.inl (some (.int tr))) (stripW 0 tl hb td tr lf tx rb N B R L G B2 R2 L2 G2 P W S Cc Y D)
abbrev csX11_trouble : q_S := (1, 11, 0, 1, 0, 0, fdX11_trouble, spX11_trouble)
def EX11_trouble : q_E := (tX11_trouble, [], 1, flX11, [], [], [], [], [], [], 0, 0, 0, (some .int), [], [], 0, 0)
theorem okX11_trouble (l : Launch) : q_Eok l RX11 cX11_trouble EX11_trouble := ⟨tX11_trouble_ok, flX11_ok, q_nil, q_nil, q_nil, q_nil, q_nil, q_nil, (fun h => absurd h (by decide))⟩
set_option maxRecDepth 100000 in
set_option maxHeartbeats 4000000 in
theorem ctX11_trouble (l : Launch) : q_CT l yX11_trouble (.code yX11_trouble cX11_trouble 1 (some .int)) 0 0 0 spX11_trouble := by
  refine q_ct_of EX11_trouble (by decide +kernel) (okX11_trouble l) rfl rfl rfl rfl rfl q_nil (fun ci h => by cases h) rfl ?_
  intro a w K h
  obtain ⟨tl, hb, td, tr, lf, tx, rb, N, B, R, L, G, B2, R2, L2, G2, P, W, S, Cc, Y, D, rfl, rfl, hK⟩ := h
  refine ⟨Nat.le_of_ble_eq_true rfl, fun C hC => hC _ _ _ _ _ _ ?_⟩
  exact hK
def tX11_fault : List q_I := [(0, .aload_n 0, 1, 0, 0), (1, .getfield 98, 3, 0, 0), (4, .ireturn, 1, 0, 0)]
theorem tX11_fault_ok : (tX11_fault.all (q_okI cX11_fault)) = true := by decide +kernel

abbrev fdX11_fault : List (Nat ⊕ (Nat × Nat)) := [.inl 0, .inr (0, 0), .inr (0, 2), .inr (2, 0), .inr (2, 1), .inr (2, 2), .inr (2, 3), .inr (2, 5), .inr (7, 0), .inr (7, 1), .inr (7, 2), .inr (7, 3), .inr (7, 4), .inr (7, 5), .inr (7, 6), .inr (2, 6), .inr (15, 0), .inr (15, 1), .inr (15, 2), .inr (15, 3), .inr (15, 4), .inr (15, 5), .inr (15, 6), .inr (2, 7), .inr (23, 0), .inr (23, 1), .inr (23, 2), .inr (23, 3), .inr (23, 4), .inr (23, 5), .inr (23, 6), .inr (23, 7), .inr (0, 3), .inr (32, 0), .inr (32, 1), .inr (32, 2), .inr (32, 3), .inr (32, 5), .inr (37, 0), .inr (37, 1), .inr (37, 2), .inr (37, 3), .inr (37, 4), .inr (37, 5), .inr (37, 6), .inr (32, 6), .inr (45, 0), .inr (45, 1), .inr (45, 2), .inr (45, 3), .inr (45, 4), .inr (45, 5), .inr (45, 6), .inr (32, 7), .inr (53, 0), .inr (53, 1), .inr (53, 2), .inr (53, 3), .inr (53, 4), .inr (53, 5), .inr (53, 6), .inr (53, 7), .inr (0, 4), .inr (62, 2), .inr (0, 7), .inr (64, 0), .inr (64, 1), .inr (64, 2), .inr (64, 3), .inr (64, 4), .inr (64, 5), .inr (0, 8), .inr (71, 1), .inr (71, 2), .inr (71, 3), .inr (71, 4), .inr (71, 5), .inr (71, 6), .inr (0, 9), .inr (78, 0), .inr (78, 1), .inr (78, 2), .inr (78, 3), .inr (78, 4), .inr (0, 10), .inr (84, 0), .inr (84, 1), .inr (84, 2), .inr (84, 3), .inr (84, 4), .inr (84, 5), .inr (84, 6), .inr (0, 11), .inr (92, 0), .inr (92, 1), .inr (92, 2), .inr (92, 3), .inr (92, 4), .inr (92, 5), .inr (0, 12), .inr (99, 0), .inr (99, 1), .inr (99, 2)]
def spX11_fault : q_P := fun a w K => ∃ (tl : Nat) (hb : Bool) (td : Int32) (tr : Int32) (lf : Int32) (tx : Nat → Int32) (rb : Value) (N : NT) (B : BT) (R : RT) (L : LT) (G : GT) (B2 : BT) (R2 : RT) (L2 : LT) (G2 : GT) (P : PT) (W : WT) (S : ST) (Cc : CT) (Y : YT) (D : DT), w = (stripW 0 tl hb td tr lf tx rb N B R L G B2 R2 L2 G2 P W S Cc Y D) ∧ a = [.ref 0] ∧ K (.inl (some (.int lf))) (stripW 0 tl hb td tr lf tx rb N B R L G B2 R2 L2 G2 P W S Cc Y D)
abbrev csX11_fault : q_S := (1, 11, 0, 1, 0, 0, fdX11_fault, spX11_fault)
def EX11_fault : q_E := (tX11_fault, [], 1, flX11, [], [], [], [], [], [], 0, 0, 0, (some .int), [], [], 0, 0)
theorem okX11_fault (l : Launch) : q_Eok l RX11 cX11_fault EX11_fault := ⟨tX11_fault_ok, flX11_ok, q_nil, q_nil, q_nil, q_nil, q_nil, q_nil, (fun h => absurd h (by decide))⟩
set_option maxRecDepth 100000 in
set_option maxHeartbeats 4000000 in
theorem ctX11_fault (l : Launch) : q_CT l yX11_fault (.code yX11_fault cX11_fault 1 (some .int)) 0 0 0 spX11_fault := by
  refine q_ct_of EX11_fault (by decide +kernel) (okX11_fault l) rfl rfl rfl rfl rfl q_nil (fun ci h => by cases h) rfl ?_
  intro a w K h
  obtain ⟨tl, hb, td, tr, lf, tx, rb, N, B, R, L, G, B2, R2, L2, G2, P, W, S, Cc, Y, D, rfl, rfl, hK⟩ := h
  refine ⟨Nat.le_of_ble_eq_true rfl, fun C hC => hC _ _ _ _ _ _ ?_⟩
  exact hK
def tX11_bought : List q_I := [(0, .aload_n 0, 1, 0, 0), (1, .getfield 51, 3, 0, 0), (4, .getfield 251, 3, 0, 0), (7, .ireturn, 1, 0, 0)]
theorem tX11_bought_ok : (tX11_bought.all (q_okI cX11_bought)) = true := by decide +kernel

abbrev fdX11_bought : List (Nat ⊕ (Nat × Nat)) := [.inl 0, .inr (0, 0), .inr (0, 2), .inr (2, 0), .inr (2, 1), .inr (2, 2), .inr (2, 3), .inr (2, 5), .inr (7, 0), .inr (7, 1), .inr (7, 2), .inr (7, 3), .inr (7, 4), .inr (7, 5), .inr (7, 6), .inr (2, 6), .inr (15, 0), .inr (15, 1), .inr (15, 2), .inr (15, 3), .inr (15, 4), .inr (15, 5), .inr (15, 6), .inr (2, 7), .inr (23, 0), .inr (23, 1), .inr (23, 2), .inr (23, 3), .inr (23, 4), .inr (23, 5), .inr (23, 6), .inr (23, 7), .inr (0, 3), .inr (32, 0), .inr (32, 1), .inr (32, 2), .inr (32, 3), .inr (32, 5), .inr (37, 0), .inr (37, 1), .inr (37, 2), .inr (37, 3), .inr (37, 4), .inr (37, 5), .inr (37, 6), .inr (32, 6), .inr (45, 0), .inr (45, 1), .inr (45, 2), .inr (45, 3), .inr (45, 4), .inr (45, 5), .inr (45, 6), .inr (32, 7), .inr (53, 0), .inr (53, 1), .inr (53, 2), .inr (53, 3), .inr (53, 4), .inr (53, 5), .inr (53, 6), .inr (53, 7), .inr (0, 4), .inr (62, 2), .inr (0, 7), .inr (64, 0), .inr (64, 1), .inr (64, 2), .inr (64, 3), .inr (64, 4), .inr (64, 5), .inr (0, 8), .inr (71, 1), .inr (71, 2), .inr (71, 3), .inr (71, 4), .inr (71, 5), .inr (71, 6), .inr (0, 9), .inr (78, 0), .inr (78, 1), .inr (78, 2), .inr (78, 3), .inr (78, 4), .inr (0, 10), .inr (84, 0), .inr (84, 1), .inr (84, 2), .inr (84, 3), .inr (84, 4), .inr (84, 5), .inr (84, 6), .inr (0, 11), .inr (92, 0), .inr (92, 1), .inr (92, 2), .inr (92, 3), .inr (92, 4), .inr (92, 5), .inr (0, 12), .inr (99, 0), .inr (99, 1), .inr (99, 2)]
def spX11_bought : q_P := fun a w K => ∃ (tl : Nat) (hb : Bool) (td : Int32) (tr : Int32) (lf : Int32) (tx : Nat → Int32) (rb : Value) (N : NT) (B : BT) (R : RT) (L : LT) (G : GT) (B2 : BT) (R2 : RT) (L2 : LT) (G2 : GT) (P : PT) (W : WT) (S : ST) (Cc : CT) (Y : YT) (D : DT), w = (stripW 0 tl hb td tr lf tx rb N B R L G B2 R2 L2 G2 P W S Cc Y D) ∧ a = [.ref 0] ∧ K (.inl (some (.int S.2.2.2.2.2.2))) (stripW 0 tl hb td tr lf tx rb N B R L G B2 R2 L2 G2 P W S Cc Y D)
abbrev csX11_bought : q_S := (1, 11, 0, 1, 0, 0, fdX11_bought, spX11_bought)
def EX11_bought : q_E := (tX11_bought, [], 1, flX11, [], [], [], [], [], [], 0, 0, 0, (some .int), [], [], 0, 0)
theorem okX11_bought (l : Launch) : q_Eok l RX11 cX11_bought EX11_bought := ⟨tX11_bought_ok, flX11_ok, q_nil, q_nil, q_nil, q_nil, q_nil, q_nil, (fun h => absurd h (by decide))⟩
set_option maxRecDepth 100000 in
set_option maxHeartbeats 4000000 in
theorem ctX11_bought (l : Launch) : q_CT l yX11_bought (.code yX11_bought cX11_bought 1 (some .int)) 0 0 0 spX11_bought := by
  refine q_ct_of EX11_bought (by decide +kernel) (okX11_bought l) rfl rfl rfl rfl rfl q_nil (fun ci h => by cases h) rfl ?_
  intro a w K h
  obtain ⟨tl, hb, td, tr, lf, tx, rb, N, B, R, L, G, B2, R2, L2, G2, P, W, S, Cc, Y, D, rfl, rfl, hK⟩ := h
  refine ⟨Nat.le_of_ble_eq_true rfl, fun C hC => hC _ _ _ _ _ _ ?_⟩
  exact hK
def tX11_pass : List q_I := [(0, .aload_n 0, 1, 0, 0), (1, .getfield 116, 3, 0, 0), (4, .ifCond .ne 9, 3, 0, 13), (7, .aload_n 0, 1, 0, 0), (8, .iconst 1, 1, 1, 0), (9, .invokevirtual 84, 3, 0, 0), (12, .ireturn, 1, 0, 0), (13, .iload_n 1, 1, 0, 0), (14, .iconst 1, 1, 1, 0), (15, .if_icmp .lt 22, 3, 0, 37), (18, .iload_n 1, 1, 0, 0), (19, .sipush 400, 3, 400, 0), (22, .if_icmp .gt 15, 3, 0, 37), (25, .aload_n 0, 1, 0, 0), (26, .getfield 120, 3, 0, 0), (29, .iload_n 1, 1, 0, 0), (30, .iadd, 1, 0, 0), (31, .sipush 999, 3, 999, 0), (34, .if_icmp .le 9, 3, 0, 43), (37, .aload_n 0, 1, 0, 0), (38, .iconst 2, 1, 2, 0), (39, .invokevirtual 84, 3, 0, 0), (42, .ireturn, 1, 0, 0), (43, .aload_n 0, 1, 0, 0), (44, .dup, 1, 0, 0), (45, .getfield 120, 3, 0, 0), (48, .iload_n 1, 1, 0, 0), (49, .iadd, 1, 0, 0), (50, .putfield 120, 3, 0, 0), (53, .aload_n 0, 1, 0, 0), (54, .aload_n 0, 1, 0, 0), (55, .getfield 120, 3, 0, 0), (58, .invokevirtual 113, 3, 0, 0), (61, .ireturn, 1, 0, 0)]
theorem tX11_pass_ok : (tX11_pass.all (q_okI cX11_pass)) = true := by decide +kernel

abbrev fdX11_pass : List (Nat ⊕ (Nat × Nat)) := [.inl 0, .inr (0, 0), .inr (0, 2), .inr (2, 0), .inr (2, 1), .inr (2, 2), .inr (2, 3), .inr (2, 5), .inr (7, 0), .inr (7, 1), .inr (7, 2), .inr (7, 3), .inr (7, 4), .inr (7, 5), .inr (7, 6), .inr (2, 6), .inr (15, 0), .inr (15, 1), .inr (15, 2), .inr (15, 3), .inr (15, 4), .inr (15, 5), .inr (15, 6), .inr (2, 7), .inr (23, 0), .inr (23, 1), .inr (23, 2), .inr (23, 3), .inr (23, 4), .inr (23, 5), .inr (23, 6), .inr (23, 7), .inr (0, 3), .inr (32, 0), .inr (32, 1), .inr (32, 2), .inr (32, 3), .inr (32, 5), .inr (37, 0), .inr (37, 1), .inr (37, 2), .inr (37, 3), .inr (37, 4), .inr (37, 5), .inr (37, 6), .inr (32, 6), .inr (45, 0), .inr (45, 1), .inr (45, 2), .inr (45, 3), .inr (45, 4), .inr (45, 5), .inr (45, 6), .inr (32, 7), .inr (53, 0), .inr (53, 1), .inr (53, 2), .inr (53, 3), .inr (53, 4), .inr (53, 5), .inr (53, 6), .inr (53, 7), .inr (0, 4), .inr (62, 2), .inr (0, 7), .inr (64, 0), .inr (64, 1), .inr (64, 2), .inr (64, 3), .inr (64, 4), .inr (64, 5), .inr (0, 8), .inr (71, 1), .inr (71, 2), .inr (71, 3), .inr (71, 4), .inr (71, 5), .inr (71, 6), .inr (0, 9), .inr (78, 0), .inr (78, 1), .inr (78, 2), .inr (78, 3), .inr (78, 4), .inr (0, 10), .inr (84, 0), .inr (84, 1), .inr (84, 2), .inr (84, 3), .inr (84, 4), .inr (84, 5), .inr (84, 6), .inr (0, 11), .inr (92, 0), .inr (92, 1), .inr (92, 2), .inr (92, 3), .inr (92, 4), .inr (92, 5), .inr (0, 12), .inr (99, 0), .inr (99, 1), .inr (99, 2)]
def spX11_pass : q_P := fun a w K => ∃ (tl : Nat) (hb : Bool) (td : Int32) (tr : Int32) (lf : Int32) (tx : Nat → Int32) (rb : Value) (N : NT) (B : BT) (R : RT) (L : LT) (G : GT) (B2 : BT) (R2 : RT) (L2 : LT) (G2 : GT) (P : PT) (W : WT) (S : ST) (Cc : CT) (Y : YT) (D : DT) (x : Int32), w = (stripW 0 tl hb td tr lf tx rb N B R L G B2 R2 L2 G2 P W S Cc Y D) ∧ a = [.ref 0, .int x] ∧ (if hb = true then (if x < 1 ∨ 400 < x ∨ 999 < td + x then K (.inl (some (.int (-1)))) (stripW 0 tl hb td (2) lf tx rb N B R L G B2 R2 L2 G2 P W S Cc Y D) else K (.inl (some (.int (td + x)))) (stripW 0 tl hb (td + x) (0) lf tx rb N B R L G B2 R2 L2 G2 P W S Cc Y D)) else K (.inl (some (.int (-1)))) (stripW 0 tl hb td (1) lf tx rb N B R L G B2 R2 L2 G2 P W S Cc Y D))
abbrev csX11_pass : q_S := (2, 11, 1, 2, 0, 0, fdX11_pass, spX11_pass)
def EX11_pass : q_E := (tX11_pass, [], 2, flX11, [(84, csX11_refuse), (113, csX11_grant)], [], [], [], [], [], 1, 0, 0, (some .int), [], [], 0, 0)
theorem okX11_pass (l : Launch) : q_Eok l RX11 cX11_pass EX11_pass := ⟨tX11_pass_ok, flX11_ok, List.forall_mem_cons.mpr ⟨(coX11_84 l), List.forall_mem_cons.mpr ⟨(coX11_113 l), q_nil⟩⟩, q_nil, q_nil, q_nil, q_nil, q_nil, (fun h => absurd h (by decide))⟩
set_option maxRecDepth 100000 in
set_option maxHeartbeats 4000000 in
theorem ctX11_pass (l : Launch) : q_CT l yX11_pass (.code yX11_pass cX11_pass 2 (some .int)) 1 0 0 spX11_pass := by
  refine q_ct_of EX11_pass (by decide +kernel) (okX11_pass l) rfl rfl rfl rfl rfl q_nil (fun ci h => by cases h) rfl ?_
  intro a w K h
  obtain ⟨tl, hb, td, tr, lf, tx, rb, N, B, R, L, G, B2, R2, L2, G2, P, W, S, Cc, Y, D, x, rfl, rfl, hK⟩ := h
  refine ⟨Nat.le_of_ble_eq_true rfl, fun C hC => hC _ _ _ _ _ _ ?_⟩
  refine And.intro (fun c => ?_) (fun c => ?_)
  · rw [if_pos (bI_n0.mp c)] at hK
    refine And.intro (fun c2 => ?_) (fun c2 => And.intro (fun c3 => ?_) (fun c3 => And.intro (fun c4 => ?_) (fun c4 => ?_)))
    · rw [if_pos (Or.inl c2)] at hK
      exact ⟨_, _, _, _, _, _, rfl, rfl, hK⟩
    · rw [if_pos (Or.inr (Or.inl c3))] at hK
      exact ⟨_, _, _, _, _, _, rfl, rfl, hK⟩
    · rw [if_neg (fun z => z.elim c2 (fun z => z.elim c3 (Int32.not_lt.mpr c4)))] at hK
      exact ⟨_, _, _, _, _, _, rfl, rfl, hK⟩
    · rw [if_pos (Or.inr (Or.inr (Int32.not_le.mp c4)))] at hK
      exact ⟨_, _, _, _, _, _, rfl, rfl, hK⟩
  · rw [if_neg (by rw [bI_0.mp c]; decide)] at hK
    exact ⟨_, _, _, _, _, _, rfl, rfl, hK⟩
def tX11_why : List q_I := [(0, .aload_n 0, 1, 0, 0), (1, .iload_n 1, 1, 0, 0), (2, .iload_n 2, 1, 0, 0), (3, .iload_n 3, 1, 0, 0), (4, .iload 4, 2, 0, 0), (6, .iload 5, 2, 0, 0), (8, .invokevirtual 134, 3, 0, 0), (11, .istore 6, 2, 0, 0), (13, .iload 6, 2, 0, 0), (15, .ifCond .eq 10, 3, 0, 25), (18, .aload_n 0, 1, 0, 0), (19, .iload 6, 2, 0, 0), (21, .invokevirtual 84, 3, 0, 0), (24, .ireturn, 1, 0, 0), (25, .aload_n 0, 1, 0, 0), (26, .getfield 16, 3, 0, 0), (29, .getfield 104, 3, 0, 0), (32, .iload_n 1, 1, 0, 0), (33, .iload_n 2, 1, 0, 0), (34, .iload_n 3, 1, 0, 0), (35, .iload 4, 2, 0, 0), (37, .iload 5, 2, 0, 0), (39, .invokevirtual 138, 3, 0, 0), (42, .istore 7, 2, 0, 0), (44, .aload_n 0, 1, 0, 0), (45, .iload 7, 2, 0, 0), (47, .iconst (-1), 1, (-1), 0), (48, .if_icmp .ne 8, 3, 0, 56), (51, .bipush (-2), 2, (-2), 0), (53, .goto 5, 3, 0, 58), (56, .iload 7, 2, 0, 0), (58, .invokevirtual 113, 3, 0, 0), (61, .ireturn, 1, 0, 0)]
theorem tX11_why_ok : (tX11_why.all (q_okI cX11_why)) = true := by decide +kernel

abbrev fdX11_why : List (Nat ⊕ (Nat × Nat)) := [.inl 0, .inr (0, 0), .inr (0, 2), .inr (2, 0), .inr (2, 1), .inr (2, 2), .inr (2, 3), .inr (2, 5), .inr (7, 0), .inr (7, 1), .inr (7, 2), .inr (7, 3), .inr (7, 4), .inr (7, 5), .inr (7, 6), .inr (2, 6), .inr (15, 0), .inr (15, 1), .inr (15, 2), .inr (15, 3), .inr (15, 4), .inr (15, 5), .inr (15, 6), .inr (2, 7), .inr (23, 0), .inr (23, 1), .inr (23, 2), .inr (23, 3), .inr (23, 4), .inr (23, 5), .inr (23, 6), .inr (23, 7), .inr (0, 3), .inr (32, 0), .inr (32, 1), .inr (32, 2), .inr (32, 3), .inr (32, 5), .inr (37, 0), .inr (37, 1), .inr (37, 2), .inr (37, 3), .inr (37, 4), .inr (37, 5), .inr (37, 6), .inr (32, 6), .inr (45, 0), .inr (45, 1), .inr (45, 2), .inr (45, 3), .inr (45, 4), .inr (45, 5), .inr (45, 6), .inr (32, 7), .inr (53, 0), .inr (53, 1), .inr (53, 2), .inr (53, 3), .inr (53, 4), .inr (53, 5), .inr (53, 6), .inr (53, 7), .inr (0, 4), .inr (62, 2), .inr (0, 7), .inr (64, 0), .inr (64, 1), .inr (64, 2), .inr (64, 3), .inr (64, 4), .inr (64, 5), .inr (0, 8), .inr (71, 1), .inr (71, 2), .inr (71, 3), .inr (71, 4), .inr (71, 5), .inr (71, 6), .inr (0, 9), .inr (78, 0), .inr (78, 1), .inr (78, 2), .inr (78, 3), .inr (78, 4), .inr (0, 10), .inr (84, 0), .inr (84, 1), .inr (84, 2), .inr (84, 3), .inr (84, 4), .inr (84, 5), .inr (84, 6), .inr (0, 11), .inr (92, 0), .inr (92, 1), .inr (92, 2), .inr (92, 3), .inr (92, 4), .inr (92, 5), .inr (0, 12), .inr (99, 0), .inr (99, 1), .inr (99, 2)]
def spX11_why : q_P := fun a w K => ∃ (tl : Nat) (hb : Bool) (td : Int32) (tr : Int32) (lf : Int32) (tx : Nat → Int32) (rb : Value) (N : NT) (B : BT) (R : RT) (L : LT) (G : GT) (B2 : BT) (R2 : RT) (L2 : LT) (G2 : GT) (P : PT) (W : WT) (S : ST) (Cc : CT) (Y : YT) (D : DT) (ld kd o d kn : Int32), w = (stripW 0 tl hb td tr lf tx rb N B R L G B2 R2 L2 G2 P W S Cc Y D) ∧ a = [.ref 0, .int ld, .int kd, .int o, .int d, .int kn] ∧ L_n L ≤ 24 ∧ (if rulR B.1 ld kd o d kn = 0 then K (.inl (some (.int (whyI (ruling L ld kd o d kn))))) (stripW 0 tl hb td (0) lf tx rb N B R L G B2 R2 L2 G2 P W S Cc Y D) else K (.inl (some (.int (-1)))) (stripW 0 tl hb td (rulR B.1 ld kd o d kn) lf tx rb N B R L G B2 R2 L2 G2 P W S Cc Y D))
abbrev csX11_why : q_S := (6, 11, 3, 8, 0, 0, fdX11_why, spX11_why)
theorem coX11_134 (l : Launch) : q_CO l RX11 134 csX11_rulingRefusal := ⟨yX11_rulingRefusal, cX11_rulingRefusal, (some .int), 5, ⟨by decide +kernel, by decide +kernel, by decide +kernel⟩, q_G_i 1 (by decide +kernel) rfl, Or.inl ⟨by decide, rfl, rfl, q_G_i 745 (by decide +kernel) rfl, q_G_i 747 (by decide +kernel) rfl, q_G_s (n := 15) 21 (by decide +kernel), Or.inl ⟨q_G_i 748 (by decide +kernel) rfl, ctX11_rulingRefusal l⟩⟩⟩
theorem coX11_138 (l : Launch) : q_CO l RX11 138 csX3_ruling := ⟨yX3_ruling, cX3_ruling, (some .int), 5, ⟨by decide +kernel, by decide +kernel, by decide +kernel⟩, q_G_i 4 (by decide +kernel) rfl, Or.inl ⟨by decide, rfl, rfl, q_G_i 760 (by decide +kernel) rfl, q_G_i 761 (by decide +kernel) rfl, q_G_i 762 (by decide +kernel) rfl, Or.inl ⟨q_G_i 763 (by decide +kernel) rfl, ctX3_ruling l⟩⟩⟩
def EX11_why : q_E := (tX11_why, [], 8, flX11, [(134, csX11_rulingRefusal), (84, csX11_refuse), (138, csX3_ruling), (113, csX11_grant)], [], [], [], [], [], 3, 0, 0, (some .int), [], [], 0, 0)
theorem okX11_why (l : Launch) : q_Eok l RX11 cX11_why EX11_why := ⟨tX11_why_ok, flX11_ok, List.forall_mem_cons.mpr ⟨(coX11_134 l), List.forall_mem_cons.mpr ⟨(coX11_84 l), List.forall_mem_cons.mpr ⟨(coX11_138 l), List.forall_mem_cons.mpr ⟨(coX11_113 l), q_nil⟩⟩⟩⟩, q_nil, q_nil, q_nil, q_nil, q_nil, (fun h => absurd h (by decide))⟩
set_option maxRecDepth 100000 in
set_option maxHeartbeats 4000000 in
theorem ctX11_why (l : Launch) : q_CT l yX11_why (.code yX11_why cX11_why 8 (some .int)) 3 0 0 spX11_why := by
  refine q_ct_of EX11_why (by decide +kernel) (okX11_why l) rfl rfl rfl rfl rfl q_nil (fun ci h => by cases h) rfl ?_
  intro a w K h
  obtain ⟨tl, hb, td, tr, lf, tx, rb, N, B, R, L, G, B2, R2, L2, G2, P, W, S, Cc, Y, D, ld, kd, o, d, kn, rfl, rfl, hL, hK⟩ := h
  refine ⟨Nat.le_of_ble_eq_true rfl, fun C hC => hC _ _ _ _ _ _ ?_⟩
  refine ⟨_, _, _, _, _, _, ld, kd, o, d, kn, B.1, rfl, rfl, And.intro (fun c => ?_) (fun c => ?_)⟩
  · rw [if_pos c] at hK
    refine ⟨L, _, _, _, _, _, rfl, rfl, hL, And.intro (fun c2 => ?_) (fun c2 => ?_)⟩
    · rw [whyI, if_neg c2] at hK
      exact ⟨_, _, _, _, _, _, rfl, rfl, hK⟩
    · rw [whyI, if_pos c2] at hK
      exact ⟨_, _, _, _, _, _, rfl, rfl, hK⟩
  · rw [if_neg c] at hK
    exact ⟨_, _, _, _, _, _, rfl, rfl, hK⟩
def tX11_takes : List q_I := [(0, .aload_n 0, 1, 0, 0), (1, .iload_n 1, 1, 0, 0), (2, .iload_n 2, 1, 0, 0), (3, .iload_n 3, 1, 0, 0), (4, .iload 4, 2, 0, 0), (6, .iload 5, 2, 0, 0), (8, .invokevirtual 134, 3, 0, 0), (11, .istore 6, 2, 0, 0), (13, .iload 6, 2, 0, 0), (15, .ifCond .eq 10, 3, 0, 25), (18, .aload_n 0, 1, 0, 0), (19, .iload 6, 2, 0, 0), (21, .invokevirtual 84, 3, 0, 0), (24, .ireturn, 1, 0, 0), (25, .aload_n 0, 1, 0, 0), (26, .getfield 16, 3, 0, 0), (29, .getfield 104, 3, 0, 0), (32, .iload_n 1, 1, 0, 0), (33, .iload_n 2, 1, 0, 0), (34, .iload_n 3, 1, 0, 0), (35, .iload 4, 2, 0, 0), (37, .iload 5, 2, 0, 0), (39, .invokevirtual 138, 3, 0, 0), (42, .istore 7, 2, 0, 0), (44, .aload_n 0, 1, 0, 0), (45, .aload_n 0, 1, 0, 0), (46, .getfield 16, 3, 0, 0), (49, .getfield 104, 3, 0, 0), (52, .iload 7, 2, 0, 0), (54, .invokevirtual 141, 3, 0, 0), (57, .ifCond .eq 7, 3, 0, 64), (60, .iconst 1, 1, 1, 0), (61, .goto 4, 3, 0, 65), (64, .iconst 0, 1, 0, 0), (65, .invokevirtual 113, 3, 0, 0), (68, .ireturn, 1, 0, 0)]
theorem tX11_takes_ok : (tX11_takes.all (q_okI cX11_takes)) = true := by decide +kernel

abbrev fdX11_takes : List (Nat ⊕ (Nat × Nat)) := [.inl 0, .inr (0, 0), .inr (0, 2), .inr (2, 0), .inr (2, 1), .inr (2, 2), .inr (2, 3), .inr (2, 5), .inr (7, 0), .inr (7, 1), .inr (7, 2), .inr (7, 3), .inr (7, 4), .inr (7, 5), .inr (7, 6), .inr (2, 6), .inr (15, 0), .inr (15, 1), .inr (15, 2), .inr (15, 3), .inr (15, 4), .inr (15, 5), .inr (15, 6), .inr (2, 7), .inr (23, 0), .inr (23, 1), .inr (23, 2), .inr (23, 3), .inr (23, 4), .inr (23, 5), .inr (23, 6), .inr (23, 7), .inr (0, 3), .inr (32, 0), .inr (32, 1), .inr (32, 2), .inr (32, 3), .inr (32, 5), .inr (37, 0), .inr (37, 1), .inr (37, 2), .inr (37, 3), .inr (37, 4), .inr (37, 5), .inr (37, 6), .inr (32, 6), .inr (45, 0), .inr (45, 1), .inr (45, 2), .inr (45, 3), .inr (45, 4), .inr (45, 5), .inr (45, 6), .inr (32, 7), .inr (53, 0), .inr (53, 1), .inr (53, 2), .inr (53, 3), .inr (53, 4), .inr (53, 5), .inr (53, 6), .inr (53, 7), .inr (0, 4), .inr (62, 2), .inr (0, 7), .inr (64, 0), .inr (64, 1), .inr (64, 2), .inr (64, 3), .inr (64, 4), .inr (64, 5), .inr (0, 8), .inr (71, 1), .inr (71, 2), .inr (71, 3), .inr (71, 4), .inr (71, 5), .inr (71, 6), .inr (0, 9), .inr (78, 0), .inr (78, 1), .inr (78, 2), .inr (78, 3), .inr (78, 4), .inr (0, 10), .inr (84, 0), .inr (84, 1), .inr (84, 2), .inr (84, 3), .inr (84, 4), .inr (84, 5), .inr (84, 6), .inr (0, 11), .inr (92, 0), .inr (92, 1), .inr (92, 2), .inr (92, 3), .inr (92, 4), .inr (92, 5), .inr (0, 12), .inr (99, 0), .inr (99, 1), .inr (99, 2)]
def spX11_takes : q_P := fun a w K => ∃ (tl : Nat) (hb : Bool) (td : Int32) (tr : Int32) (lf : Int32) (tx : Nat → Int32) (rb : Value) (N : NT) (B : BT) (R : RT) (L : LT) (G : GT) (B2 : BT) (R2 : RT) (L2 : LT) (G2 : GT) (P : PT) (W : WT) (S : ST) (Cc : CT) (Y : YT) (D : DT) (ld kd o d kn : Int32), w = (stripW 0 tl hb td tr lf tx rb N B R L G B2 R2 L2 G2 P W S Cc Y D) ∧ a = [.ref 0, .int ld, .int kd, .int o, .int d, .int kn] ∧ L_n L ≤ 24 ∧ (if rulR B.1 ld kd o d kn = 0 then K (.inl (some (.int (bI (saysT L (ruling L ld kd o d kn)))))) (stripW 0 tl hb td (0) lf tx rb N B R L G B2 R2 L2 G2 P W S Cc Y D) else K (.inl (some (.int (-1)))) (stripW 0 tl hb td (rulR B.1 ld kd o d kn) lf tx rb N B R L G B2 R2 L2 G2 P W S Cc Y D))
abbrev csX11_takes : q_S := (6, 11, 3, 8, 0, 0, fdX11_takes, spX11_takes)
theorem coX11_141 (l : Launch) : q_CO l RX11 141 csX3_saysTakes := ⟨yX3_saysTakes, cX3_saysTakes, (some .boolean), 1, ⟨by decide +kernel, by decide +kernel, by decide +kernel⟩, q_G_i 4 (by decide +kernel) rfl, Or.inl ⟨by decide, rfl, rfl, q_G_i 764 (by decide +kernel) rfl, q_G_i 765 (by decide +kernel) rfl, q_G_i 766 (by decide +kernel) rfl, Or.inl ⟨q_G_i 767 (by decide +kernel) rfl, ctX3_saysTakes l⟩⟩⟩
def EX11_takes : q_E := (tX11_takes, [], 8, flX11, [(134, csX11_rulingRefusal), (84, csX11_refuse), (138, csX3_ruling), (141, csX3_saysTakes), (113, csX11_grant)], [], [], [], [], [], 3, 0, 0, (some .int), [], [], 0, 0)
theorem okX11_takes (l : Launch) : q_Eok l RX11 cX11_takes EX11_takes := ⟨tX11_takes_ok, flX11_ok, List.forall_mem_cons.mpr ⟨(coX11_134 l), List.forall_mem_cons.mpr ⟨(coX11_84 l), List.forall_mem_cons.mpr ⟨(coX11_138 l), List.forall_mem_cons.mpr ⟨(coX11_141 l), List.forall_mem_cons.mpr ⟨(coX11_113 l), q_nil⟩⟩⟩⟩⟩, q_nil, q_nil, q_nil, q_nil, q_nil, (fun h => absurd h (by decide))⟩
set_option maxRecDepth 100000 in
set_option maxHeartbeats 4000000 in
theorem ctX11_takes (l : Launch) : q_CT l yX11_takes (.code yX11_takes cX11_takes 8 (some .int)) 3 0 0 spX11_takes := by
  refine q_ct_of EX11_takes (by decide +kernel) (okX11_takes l) rfl rfl rfl rfl rfl q_nil (fun ci h => by cases h) rfl ?_
  intro a w K h
  obtain ⟨tl, hb, td, tr, lf, tx, rb, N, B, R, L, G, B2, R2, L2, G2, P, W, S, Cc, Y, D, ld, kd, o, d, kn, rfl, rfl, hL, hK⟩ := h
  refine ⟨Nat.le_of_ble_eq_true rfl, fun C hC => hC _ _ _ _ _ _ ?_⟩
  refine ⟨_, _, _, _, _, _, ld, kd, o, d, kn, B.1, rfl, rfl, And.intro (fun c => ?_) (fun c => ?_)⟩
  · rw [if_pos c] at hK
    refine ⟨L, _, _, _, _, _, rfl, rfl, hL, L, ruling L ld kd o d kn, rfl, rfl, hL, fun i hi => rulO_lt hi, And.intro (fun c2 => ?_) (fun c2 => ?_)⟩
    · rw [bI_0.mp c2] at hK
      exact ⟨_, _, _, _, _, _, rfl, rfl, hK⟩
    · rw [bI_n0.mp c2] at hK
      exact ⟨_, _, _, _, _, _, rfl, rfl, hK⟩
  · rw [if_neg c] at hK
    exact ⟨_, _, _, _, _, _, rfl, rfl, hK⟩
def tX11_person : List q_I := [(0, .aload_n 0, 1, 0, 0), (1, .getfield 16, 3, 0, 0), (4, .iconst 0, 1, 0, 0), (5, .iload_n 1, 1, 0, 0), (6, .invokevirtual 145, 3, 0, 0), (9, .ifCond .ne 9, 3, 0, 18), (12, .aload_n 0, 1, 0, 0), (13, .iconst 1, 1, 1, 0), (14, .invokevirtual 84, 3, 0, 0), (17, .ireturn, 1, 0, 0), (18, .aload_n 0, 1, 0, 0), (19, .getfield 35, 3, 0, 0), (22, .invokevirtual 155, 3, 0, 0), (25, .ifCond .ne 9, 3, 0, 34), (28, .aload_n 0, 1, 0, 0), (29, .iconst 3, 1, 3, 0), (30, .invokevirtual 84, 3, 0, 0), (33, .ireturn, 1, 0, 0), (34, .aload_n 0, 1, 0, 0), (35, .aload_n 0, 1, 0, 0), (36, .getfield 35, 3, 0, 0), (39, .iload_n 1, 1, 0, 0), (40, .invokevirtual 159, 3, 0, 0), (43, .invokevirtual 113, 3, 0, 0), (46, .ireturn, 1, 0, 0)]
theorem tX11_person_ok : (tX11_person.all (q_okI cX11_person)) = true := by decide +kernel

abbrev fdX11_person : List (Nat ⊕ (Nat × Nat)) := [.inl 0, .inr (0, 0), .inr (0, 2), .inr (2, 0), .inr (2, 1), .inr (2, 2), .inr (2, 3), .inr (2, 5), .inr (7, 0), .inr (7, 1), .inr (7, 2), .inr (7, 3), .inr (7, 4), .inr (7, 5), .inr (7, 6), .inr (2, 6), .inr (15, 0), .inr (15, 1), .inr (15, 2), .inr (15, 3), .inr (15, 4), .inr (15, 5), .inr (15, 6), .inr (2, 7), .inr (23, 0), .inr (23, 1), .inr (23, 2), .inr (23, 3), .inr (23, 4), .inr (23, 5), .inr (23, 6), .inr (23, 7), .inr (0, 3), .inr (32, 0), .inr (32, 1), .inr (32, 2), .inr (32, 3), .inr (32, 5), .inr (37, 0), .inr (37, 1), .inr (37, 2), .inr (37, 3), .inr (37, 4), .inr (37, 5), .inr (37, 6), .inr (32, 6), .inr (45, 0), .inr (45, 1), .inr (45, 2), .inr (45, 3), .inr (45, 4), .inr (45, 5), .inr (45, 6), .inr (32, 7), .inr (53, 0), .inr (53, 1), .inr (53, 2), .inr (53, 3), .inr (53, 4), .inr (53, 5), .inr (53, 6), .inr (53, 7), .inr (0, 4), .inr (62, 2), .inr (0, 7), .inr (64, 0), .inr (64, 1), .inr (64, 2), .inr (64, 3), .inr (64, 4), .inr (64, 5), .inr (0, 8), .inr (71, 1), .inr (71, 2), .inr (71, 3), .inr (71, 4), .inr (71, 5), .inr (71, 6), .inr (0, 9), .inr (78, 0), .inr (78, 1), .inr (78, 2), .inr (78, 3), .inr (78, 4), .inr (0, 10), .inr (84, 0), .inr (84, 1), .inr (84, 2), .inr (84, 3), .inr (84, 4), .inr (84, 5), .inr (84, 6), .inr (0, 11), .inr (92, 0), .inr (92, 1), .inr (92, 2), .inr (92, 3), .inr (92, 4), .inr (92, 5), .inr (0, 12), .inr (99, 0), .inr (99, 1), .inr (99, 2)]
def spX11_person : q_P := fun a w K => ∃ (tl : Nat) (hb : Bool) (td : Int32) (tr : Int32) (lf : Int32) (tx : Nat → Int32) (rb : Value) (N : NT) (B : BT) (R : RT) (L : LT) (G : GT) (B2 : BT) (R2 : RT) (L2 : LT) (G2 : GT) (P : PT) (W : WT) (S : ST) (Cc : CT) (Y : YT) (D : DT) (x : Int32), w = (stripW 0 tl hb td tr lf tx rb N B R L G B2 R2 L2 G2 P W S Cc Y D) ∧ a = [.ref 0, .int x] ∧ P.2.2.2.2.2.2 ≤ 30 ∧ (if toldB B.1 0 x = true then (if P.2.2.2.2.2.2 < 30 then K (.inl (some (.int (nI P.2.2.2.2.2.2)))) (stripW 0 tl hb td (0) lf tx rb N B R L G B2 R2 L2 G2 (peopleAdd P x) W S Cc Y D) else K (.inl (some (.int (-1)))) (stripW 0 tl hb td (3) lf tx rb N B R L G B2 R2 L2 G2 P W S Cc Y D)) else K (.inl (some (.int (-1)))) (stripW 0 tl hb td (1) lf tx rb N B R L G B2 R2 L2 G2 P W S Cc Y D))
abbrev csX11_person : q_S := (2, 11, 1, 2, 0, 0, fdX11_person, spX11_person)
theorem coX11_155 (l : Launch) : q_CO l RX11 155 csX6_hasRoom := ⟨yX6_hasRoom, cX6_hasRoom, (some .boolean), 0, ⟨by decide +kernel, by decide +kernel, by decide +kernel⟩, q_G_i 11 (by decide +kernel) rfl, Or.inl ⟨by decide, rfl, rfl, q_G_i 776 (by decide +kernel) rfl, q_G_i 777 (by decide +kernel) rfl, q_G_i 778 (by decide +kernel) rfl, Or.inl ⟨q_G_i 779 (by decide +kernel) rfl, ctX6_hasRoom l⟩⟩⟩
theorem coX11_159 (l : Launch) : q_CO l RX11 159 csX6_add := ⟨yX6_add, cX6_add, (some .int), 1, ⟨by decide +kernel, by decide +kernel, by decide +kernel⟩, q_G_i 11 (by decide +kernel) rfl, Or.inl ⟨by decide, rfl, rfl, q_G_i 780 (by decide +kernel) rfl, q_G_i 781 (by decide +kernel) rfl, q_G_i 782 (by decide +kernel) rfl, Or.inl ⟨q_G_i 783 (by decide +kernel) rfl, ctX6_add l⟩⟩⟩
def EX11_person : q_E := (tX11_person, [], 2, flX11, [(145, csX0_has), (84, csX11_refuse), (155, csX6_hasRoom), (159, csX6_add), (113, csX11_grant)], [], [], [], [], [], 1, 0, 0, (some .int), [], [], 0, 0)
theorem okX11_person (l : Launch) : q_Eok l RX11 cX11_person EX11_person := ⟨tX11_person_ok, flX11_ok, List.forall_mem_cons.mpr ⟨(coX11_145 l), List.forall_mem_cons.mpr ⟨(coX11_84 l), List.forall_mem_cons.mpr ⟨(coX11_155 l), List.forall_mem_cons.mpr ⟨(coX11_159 l), List.forall_mem_cons.mpr ⟨(coX11_113 l), q_nil⟩⟩⟩⟩⟩, q_nil, q_nil, q_nil, q_nil, q_nil, (fun h => absurd h (by decide))⟩
set_option maxRecDepth 100000 in
set_option maxHeartbeats 4000000 in
theorem ctX11_person (l : Launch) : q_CT l yX11_person (.code yX11_person cX11_person 2 (some .int)) 1 0 0 spX11_person := by
  refine q_ct_of EX11_person (by decide +kernel) (okX11_person l) rfl rfl rfl rfl rfl q_nil (fun ci h => by cases h) rfl ?_
  intro a w K h
  obtain ⟨tl, hb, td, tr, lf, tx, rb, N, B, R, L, G, B2, R2, L2, G2, P, W, S, Cc, Y, D, x, rfl, rfl, hP, hK⟩ := h
  refine ⟨Nat.le_of_ble_eq_true rfl, fun C hC => hC _ _ _ _ _ _ ?_⟩
  refine ⟨B.1, 0, x, _, _, _, _, _, _, _, rfl, rfl, by decide, And.intro (fun c => ?_) (fun c => ?_)⟩
  · have c : toldB B.1 0 x = true := bI_n0.mp c
    rw [if_pos c] at hK
    refine ⟨P, rfl, rfl, hP, And.intro (fun c2 => ?_) (fun c2 => ?_)⟩
    · have c2 := of_decide_eq_true (bI_n0.mp c2)
      rw [if_pos c2] at hK
      exact ⟨P, x, rfl, rfl, c2, _, _, _, _, _, _, rfl, rfl, hK⟩
    · rw [if_neg (of_decide_eq_false (bI_0.mp c2))] at hK
      exact ⟨_, _, _, _, _, _, rfl, rfl, hK⟩
  · have c : toldB B.1 0 x = false := bI_0.mp c
    rw [c] at hK
    exact ⟨_, _, _, _, _, _, rfl, rfl, hK⟩
theorem upd_eq (f : Nat → Int32) (i : Nat) (v : Int32) : upd f i v i = v := by rw [upd, if_pos rfl]
def tX11_paper : List q_I := [(0, .aload_n 0, 1, 0, 0), (1, .getfield 35, 3, 0, 0), (4, .iload_n 1, 1, 0, 0), (5, .invokevirtual 162, 3, 0, 0), (8, .ifCond .eq 12, 3, 0, 20), (11, .aload_n 0, 1, 0, 0), (12, .iload_n 2, 1, 0, 0), (13, .iload_n 3, 1, 0, 0), (14, .invokevirtual 149, 3, 0, 0), (17, .ifCond .ne 9, 3, 0, 26), (20, .aload_n 0, 1, 0, 0), (21, .iconst 1, 1, 1, 0), (22, .invokevirtual 84, 3, 0, 0), (25, .ireturn, 1, 0, 0), (26, .iload 4, 2, 0, 0), (28, .invokestatic 152, 3, 0, 0), (31, .ifCond .eq 18, 3, 0, 49), (34, .iload 5, 2, 0, 0), (36, .invokestatic 152, 3, 0, 0), (39, .ifCond .eq 10, 3, 0, 49), (42, .iload 5, 2, 0, 0), (44, .iload 4, 2, 0, 0), (46, .if_icmp .ge 9, 3, 0, 55), (49, .aload_n 0, 1, 0, 0), (50, .iconst 2, 1, 2, 0), (51, .invokevirtual 84, 3, 0, 0), (54, .ireturn, 1, 0, 0), (55, .aload_n 0, 1, 0, 0), (56, .getfield 35, 3, 0, 0), (59, .iload_n 1, 1, 0, 0), (60, .invokevirtual 164, 3, 0, 0), (63, .ifCond .ne 9, 3, 0, 72), (66, .aload_n 0, 1, 0, 0), (67, .iconst 3, 1, 3, 0), (68, .invokevirtual 84, 3, 0, 0), (71, .ireturn, 1, 0, 0), (72, .aload_n 0, 1, 0, 0), (73, .getfield 35, 3, 0, 0), (76, .iload_n 1, 1, 0, 0), (77, .iload_n 2, 1, 0, 0), (78, .iload_n 3, 1, 0, 0), (79, .iload 4, 2, 0, 0), (81, .iload 5, 2, 0, 0), (83, .invokevirtual 167, 3, 0, 0), (86, .aload_n 0, 1, 0, 0), (87, .aload_n 0, 1, 0, 0), (88, .getfield 35, 3, 0, 0), (91, .getfield 171, 3, 0, 0), (94, .iload_n 1, 1, 0, 0), (95, .iaload, 1, 0, 0), (96, .invokevirtual 113, 3, 0, 0), (99, .ireturn, 1, 0, 0)]
theorem tX11_paper_ok : (tX11_paper.all (q_okI cX11_paper)) = true := by decide +kernel

abbrev fdX11_paper : List (Nat ⊕ (Nat × Nat)) := [.inl 0, .inr (0, 0), .inr (0, 2), .inr (2, 0), .inr (2, 1), .inr (2, 2), .inr (2, 3), .inr (2, 5), .inr (7, 0), .inr (7, 1), .inr (7, 2), .inr (7, 3), .inr (7, 4), .inr (7, 5), .inr (7, 6), .inr (2, 6), .inr (15, 0), .inr (15, 1), .inr (15, 2), .inr (15, 3), .inr (15, 4), .inr (15, 5), .inr (15, 6), .inr (2, 7), .inr (23, 0), .inr (23, 1), .inr (23, 2), .inr (23, 3), .inr (23, 4), .inr (23, 5), .inr (23, 6), .inr (23, 7), .inr (0, 3), .inr (32, 0), .inr (32, 1), .inr (32, 2), .inr (32, 3), .inr (32, 5), .inr (37, 0), .inr (37, 1), .inr (37, 2), .inr (37, 3), .inr (37, 4), .inr (37, 5), .inr (37, 6), .inr (32, 6), .inr (45, 0), .inr (45, 1), .inr (45, 2), .inr (45, 3), .inr (45, 4), .inr (45, 5), .inr (45, 6), .inr (32, 7), .inr (53, 0), .inr (53, 1), .inr (53, 2), .inr (53, 3), .inr (53, 4), .inr (53, 5), .inr (53, 6), .inr (53, 7), .inr (0, 4), .inr (62, 2), .inr (0, 7), .inr (64, 0), .inr (64, 1), .inr (64, 2), .inr (64, 3), .inr (64, 4), .inr (64, 5), .inr (0, 8), .inr (71, 1), .inr (71, 2), .inr (71, 3), .inr (71, 4), .inr (71, 5), .inr (71, 6), .inr (0, 9), .inr (78, 0), .inr (78, 1), .inr (78, 2), .inr (78, 3), .inr (78, 4), .inr (0, 10), .inr (84, 0), .inr (84, 1), .inr (84, 2), .inr (84, 3), .inr (84, 4), .inr (84, 5), .inr (84, 6), .inr (0, 11), .inr (92, 0), .inr (92, 1), .inr (92, 2), .inr (92, 3), .inr (92, 4), .inr (92, 5), .inr (0, 12), .inr (99, 0), .inr (99, 1), .inr (99, 2)]
def spX11_paper : q_P := fun a w K => ∃ (tl : Nat) (hb : Bool) (td : Int32) (tr : Int32) (lf : Int32) (tx : Nat → Int32) (rb : Value) (N : NT) (B : BT) (R : RT) (L : LT) (G : GT) (B2 : BT) (R2 : RT) (L2 : LT) (G2 : GT) (P : PT) (W : WT) (S : ST) (Cc : CT) (Y : YT) (D : DT) (p k o f t : Int32), w = (stripW 0 tl hb td tr lf tx rb N B R L G B2 R2 L2 G2 P W S Cc Y D) ∧ a = [.ref 0, .int p, .int k, .int o, .int f, .int t] ∧ pOk P ∧ (if (perB P p && sortB B.1 k o) = true then (if (dayB f && (dayB t && decide (f ≤ t))) = true then (if pcN P p.toNatClampNeg < 8 then K (.inl (some (.int (nI (pcN P p.toNatClampNeg + 1))))) (stripW 0 tl hb td (0) lf tx rb N B R L G B2 R2 L2 G2 (peopleGive P p.toNatClampNeg k o f t) W S Cc Y D) else K (.inl (some (.int (-1)))) (stripW 0 tl hb td (3) lf tx rb N B R L G B2 R2 L2 G2 P W S Cc Y D)) else K (.inl (some (.int (-1)))) (stripW 0 tl hb td (2) lf tx rb N B R L G B2 R2 L2 G2 P W S Cc Y D)) else K (.inl (some (.int (-1)))) (stripW 0 tl hb td (1) lf tx rb N B R L G B2 R2 L2 G2 P W S Cc Y D))
abbrev csX11_paper : q_S := (6, 11, 2, 6, 0, 0, fdX11_paper, spX11_paper)
theorem coX11_164 (l : Launch) : q_CO l RX11 164 csX6_hasPaperRoom := ⟨yX6_hasPaperRoom, cX6_hasPaperRoom, (some .boolean), 1, ⟨by decide +kernel, by decide +kernel, by decide +kernel⟩, q_G_i 11 (by decide +kernel) rfl, Or.inl ⟨by decide, rfl, rfl, q_G_i 792 (by decide +kernel) rfl, q_G_i 793 (by decide +kernel) rfl, q_G_i 794 (by decide +kernel) rfl, Or.inl ⟨q_G_i 795 (by decide +kernel) rfl, ctX6_hasPaperRoom l⟩⟩⟩
theorem coX11_167 (l : Launch) : q_CO l RX11 167 csX6_give := ⟨yX6_give, cX6_give, none, 5, ⟨by decide +kernel, by decide +kernel, by decide +kernel⟩, q_G_i 11 (by decide +kernel) rfl, Or.inl ⟨by decide, rfl, rfl, q_G_i 796 (by decide +kernel) rfl, q_G_i 797 (by decide +kernel) rfl, q_G_i 798 (by decide +kernel) rfl, Or.inl ⟨q_G_i 799 (by decide +kernel) rfl, ctX6_give l⟩⟩⟩
def EX11_paper : q_E := (tX11_paper, [], 6, flX11, [(162, csX6_has), (149, csX11_isPaperSort), (84, csX11_refuse), (152, csX11_isDay), (164, csX6_hasPaperRoom), (167, csX6_give), (113, csX11_grant)], [], [], [], [], [], 2, 0, 0, (some .int), [], [], 0, 0)
theorem okX11_paper (l : Launch) : q_Eok l RX11 cX11_paper EX11_paper := ⟨tX11_paper_ok, flX11_ok, List.forall_mem_cons.mpr ⟨(coX11_162 l), List.forall_mem_cons.mpr ⟨(coX11_149 l), List.forall_mem_cons.mpr ⟨(coX11_84 l), List.forall_mem_cons.mpr ⟨(coX11_152 l), List.forall_mem_cons.mpr ⟨(coX11_164 l), List.forall_mem_cons.mpr ⟨(coX11_167 l), List.forall_mem_cons.mpr ⟨(coX11_113 l), q_nil⟩⟩⟩⟩⟩⟩⟩, q_nil, q_nil, q_nil, q_nil, q_nil, (fun h => absurd h (by decide))⟩
set_option maxRecDepth 100000 in
set_option maxHeartbeats 4000000 in
theorem ctX11_paper (l : Launch) : q_CT l yX11_paper (.code yX11_paper cX11_paper 6 (some .int)) 2 0 0 spX11_paper := by
  refine q_ct_of EX11_paper (by decide +kernel) (okX11_paper l) rfl rfl rfl rfl rfl q_nil (fun ci h => by cases h) rfl ?_
  intro a w K h
  obtain ⟨tl, hb, td, tr, lf, tx, rb, N, B, R, L, G, B2, R2, L2, G2, P, W, S, Cc, Y, D, p, k, o, f, t, rfl, rfl, ho, hK⟩ := h
  refine ⟨Nat.le_of_ble_eq_true rfl, fun C hC => hC _ _ _ _ _ _ ?_⟩
  refine ⟨P, p, rfl, rfl, And.intro (fun c => ?_) (fun c => ?_)⟩
  · have c : perB P p = false := bI_0.mp c
    rw [c] at hK
    exact ⟨_, _, _, _, _, _, rfl, rfl, hK⟩
  · have c : perB P p = true := bI_n0.mp c
    rw [c, Bool.true_and] at hK
    refine ⟨_, _, _, _, _, _, k, o, B.1, rfl, rfl, And.intro (fun c2 => ?_) (fun c2 => ?_)⟩
    · rw [if_pos (bI_n0.mp c2)] at hK
      refine ⟨f, rfl, rfl, And.intro (fun c3 => ?_) (fun c3 => ?_)⟩
      · have c3 : dayB f = false := bI_0.mp c3
        rw [c3] at hK
        exact ⟨_, _, _, _, _, _, rfl, rfl, hK⟩
      · have c3 : dayB f = true := bI_n0.mp c3
        rw [c3, Bool.true_and] at hK
        refine ⟨t, rfl, rfl, And.intro (fun c4 => ?_) (fun c4 => ?_)⟩
        · have c4 : dayB t = false := bI_0.mp c4
          rw [c4] at hK
          exact ⟨_, _, _, _, _, _, rfl, rfl, hK⟩
        · have c4 : dayB t = true := bI_n0.mp c4
          rw [c4, Bool.true_and] at hK
          refine And.intro (fun c5 => ?_) (fun c5 => ?_)
          · rw [if_pos (decide_eq_true c5)] at hK
            obtain ⟨p, rfl, hp, hcp⟩ := perI ho c
            rw [hcp] at hK
            refine ⟨P, p, rfl, rfl, ho, hp, And.intro (fun c6 => ?_) (fun c6 => ?_)⟩
            · have c6 := of_decide_eq_true (bI_n0.mp c6)
              rw [if_pos c6] at hK
              refine ⟨P, p, k, o, f, t, rfl, rfl, ho, hp, c6, vp_in_nI (by have := ho.1; omega) (by omega), _, _, _, _, _, _, rfl, rfl, ?_⟩
              rw [hcp, show (peopleGive P p k o f t).2.1 p = nI (pcN P p + 1) from upd_eq _ _ _]
              exact hK
            · rw [if_neg (of_decide_eq_false (bI_0.mp c6))] at hK
              exact ⟨_, _, _, _, _, _, rfl, rfl, hK⟩
          · rw [decide_eq_false c5] at hK
            exact ⟨_, _, _, _, _, _, rfl, rfl, hK⟩
    · rw [bI_0.mp c2] at hK
      exact ⟨_, _, _, _, _, _, rfl, rfl, hK⟩
def heldI (P : PT) (k : Nat) (x : Int32) : Int32 := if x = 0 then P.2.2.1 k else if x = 1 then P.2.2.2.1 k else if x = 2 then P.2.2.2.2.1 k else if x = 3 then P.2.2.2.2.2.1 k else -1
theorem tI {x : Int32} {n : Nat} (hn : n < 2 ^ 31) (h : x.toInt = (n : Int)) : x = nI n := Int32.toInt_inj.mp (by rw [nI_toInt hn]; exact h)
def tX11_held : List q_I := [(0, .aload_n 0, 1, 0, 0), (1, .getfield 35, 3, 0, 0), (4, .iload_n 1, 1, 0, 0), (5, .invokevirtual 162, 3, 0, 0), (8, .ifCond .eq 20, 3, 0, 28), (11, .iload_n 2, 1, 0, 0), (12, .ifCond .lt 16, 3, 0, 28), (15, .iload_n 2, 1, 0, 0), (16, .aload_n 0, 1, 0, 0), (17, .getfield 35, 3, 0, 0), (20, .getfield 171, 3, 0, 0), (23, .iload_n 1, 1, 0, 0), (24, .iaload, 1, 0, 0), (25, .if_icmp .lt 5, 3, 0, 30), (28, .iconst (-1), 1, (-1), 0), (29, .ireturn, 1, 0, 0), (30, .iload_n 1, 1, 0, 0), (31, .invokestatic 175, 3, 0, 0), (34, .iload_n 2, 1, 0, 0), (35, .iadd, 1, 0, 0), (36, .istore 4, 2, 0, 0), (38, .iload_n 3, 1, 0, 0), (39, .tableswitch 73 0 3 #[29, 40, 51, 62], 29, 0, 0), (68, .aload_n 0, 1, 0, 0), (69, .getfield 35, 3, 0, 0), (72, .getfield 178, 3, 0, 0), (75, .iload 4, 2, 0, 0), (77, .iaload, 1, 0, 0), (78, .ireturn, 1, 0, 0), (79, .aload_n 0, 1, 0, 0), (80, .getfield 35, 3, 0, 0), (83, .getfield 181, 3, 0, 0), (86, .iload 4, 2, 0, 0), (88, .iaload, 1, 0, 0), (89, .ireturn, 1, 0, 0), (90, .aload_n 0, 1, 0, 0), (91, .getfield 35, 3, 0, 0), (94, .getfield 184, 3, 0, 0), (97, .iload 4, 2, 0, 0), (99, .iaload, 1, 0, 0), (100, .ireturn, 1, 0, 0), (101, .aload_n 0, 1, 0, 0), (102, .getfield 35, 3, 0, 0), (105, .getfield 187, 3, 0, 0), (108, .iload 4, 2, 0, 0), (110, .iaload, 1, 0, 0), (111, .ireturn, 1, 0, 0), (112, .iconst (-1), 1, (-1), 0), (113, .ireturn, 1, 0, 0)]
theorem tX11_held_ok : (tX11_held.all (q_okI cX11_held)) = true := by decide +kernel

abbrev fdX11_held : List (Nat ⊕ (Nat × Nat)) := [.inl 0, .inr (0, 0), .inr (0, 2), .inr (2, 0), .inr (2, 1), .inr (2, 2), .inr (2, 3), .inr (2, 5), .inr (7, 0), .inr (7, 1), .inr (7, 2), .inr (7, 3), .inr (7, 4), .inr (7, 5), .inr (7, 6), .inr (2, 6), .inr (15, 0), .inr (15, 1), .inr (15, 2), .inr (15, 3), .inr (15, 4), .inr (15, 5), .inr (15, 6), .inr (2, 7), .inr (23, 0), .inr (23, 1), .inr (23, 2), .inr (23, 3), .inr (23, 4), .inr (23, 5), .inr (23, 6), .inr (23, 7), .inr (0, 3), .inr (32, 0), .inr (32, 1), .inr (32, 2), .inr (32, 3), .inr (32, 5), .inr (37, 0), .inr (37, 1), .inr (37, 2), .inr (37, 3), .inr (37, 4), .inr (37, 5), .inr (37, 6), .inr (32, 6), .inr (45, 0), .inr (45, 1), .inr (45, 2), .inr (45, 3), .inr (45, 4), .inr (45, 5), .inr (45, 6), .inr (32, 7), .inr (53, 0), .inr (53, 1), .inr (53, 2), .inr (53, 3), .inr (53, 4), .inr (53, 5), .inr (53, 6), .inr (53, 7), .inr (0, 4), .inr (62, 2), .inr (0, 7), .inr (64, 0), .inr (64, 1), .inr (64, 2), .inr (64, 3), .inr (64, 4), .inr (64, 5), .inr (0, 8), .inr (71, 1), .inr (71, 2), .inr (71, 3), .inr (71, 4), .inr (71, 5), .inr (71, 6), .inr (0, 9), .inr (78, 0), .inr (78, 1), .inr (78, 2), .inr (78, 3), .inr (78, 4), .inr (0, 10), .inr (84, 0), .inr (84, 1), .inr (84, 2), .inr (84, 3), .inr (84, 4), .inr (84, 5), .inr (84, 6), .inr (0, 11), .inr (92, 0), .inr (92, 1), .inr (92, 2), .inr (92, 3), .inr (92, 4), .inr (92, 5), .inr (0, 12), .inr (99, 0), .inr (99, 1), .inr (99, 2)]
def spX11_held : q_P := fun a w K => ∃ (tl : Nat) (hb : Bool) (td : Int32) (tr : Int32) (lf : Int32) (tx : Nat → Int32) (rb : Value) (N : NT) (B : BT) (R : RT) (L : LT) (G : GT) (B2 : BT) (R2 : RT) (L2 : LT) (G2 : GT) (P : PT) (W : WT) (S : ST) (Cc : CT) (Y : YT) (D : DT) (p i x : Int32), w = (stripW 0 tl hb td tr lf tx rb N B R L G B2 R2 L2 G2 P W S Cc Y D) ∧ a = [.ref 0, .int p, .int i, .int x] ∧ pOk P ∧ (if (perB P p && decide (0 ≤ i ∧ i < nI (pcN P p.toNatClampNeg))) = true then K (.inl (some (.int (heldI P (p.toNatClampNeg * 8 + i.toNatClampNeg) x)))) (stripW 0 tl hb td tr lf tx rb N B R L G B2 R2 L2 G2 P W S Cc Y D) else K (.inl (some (.int (-1)))) (stripW 0 tl hb td tr lf tx rb N B R L G B2 R2 L2 G2 P W S Cc Y D))
abbrev csX11_held : q_S := (4, 11, 1, 5, 0, 0, fdX11_held, spX11_held)
theorem coX11_175 (l : Launch) : q_CO l RX11 175 csX6_firstPaper := ⟨yX6_firstPaper, cX6_firstPaper, (some .int), 1, ⟨by decide +kernel, by decide +kernel, by decide +kernel⟩, q_G_i 11 (by decide +kernel) rfl, Or.inr (Or.inr (Or.inr ⟨rfl, rfl, q_G_i 808 (by decide +kernel) rfl, q_G_i 809 (by decide +kernel) rfl, Or.inl ⟨q_G_i 810 (by decide +kernel) rfl, ctX6_firstPaper l⟩⟩))⟩
def EX11_held : q_E := (tX11_held, [], 5, flX11, [(162, csX6_has), (175, csX6_firstPaper)], [], [], [], [], [], 1, 0, 0, (some .int), [], [], 0, 0)
theorem okX11_held (l : Launch) : q_Eok l RX11 cX11_held EX11_held := ⟨tX11_held_ok, flX11_ok, List.forall_mem_cons.mpr ⟨(coX11_162 l), List.forall_mem_cons.mpr ⟨(coX11_175 l), q_nil⟩⟩, q_nil, q_nil, q_nil, q_nil, q_nil, (fun h => absurd h (by decide))⟩
set_option maxRecDepth 100000 in
set_option maxHeartbeats 4000000 in
theorem ctX11_held (l : Launch) : q_CT l yX11_held (.code yX11_held cX11_held 5 (some .int)) 1 0 0 spX11_held := by
  refine q_ct_of EX11_held (by decide +kernel) (okX11_held l) rfl rfl rfl rfl rfl q_nil (fun ci h => by cases h) rfl ?_
  intro a w K h
  obtain ⟨tl, hb, td, tr, lf, tx, rb, N, B, R, L, G, B2, R2, L2, G2, P, W, S, Cc, Y, D, p, i, x, rfl, rfl, ho, hK⟩ := h
  refine ⟨Nat.le_of_ble_eq_true rfl, fun C hC => hC _ _ _ _ _ _ ?_⟩
  refine ⟨P, p, rfl, rfl, And.intro (fun c => ?_) (fun c => ?_)⟩
  · have c : perB P p = false := bI_0.mp c
    rw [c] at hK
    exact hK
  · have c : perB P p = true := bI_n0.mp c
    rw [c, Bool.true_and] at hK
    obtain ⟨p, rfl, hp, hcp⟩ := perI ho c
    obtain ⟨h1, h2, h3, h4, h5⟩ := pOk_ix ho hp
    rw [hcp] at hK
    refine And.intro (fun c2 => ?_) (fun c2 => ⟨vp_in_nI (by have := ho.1; omega) (by omega), And.intro (fun c3 => ?_) (fun c3 => ?_)⟩)
    · rw [decide_eq_false (fun z => absurd c2 (Int32.not_lt.mpr z.1))] at hK
      exact hK
    · have c3 : i < P.2.1 (nI p).toNatClampNeg := c3
      rw [hcp, h3] at c3
      have c9 := And.intro (Int32.not_lt.mp c2) c3
      rw [decide_eq_true c9] at hK
      obtain ⟨i, rfl, hi⟩ := inI (by omega) c9
      have hci : (nI i).toNatClampNeg = i := nI_clamp (by omega)
      rw [hci] at hK
      have hv : vp_in (nI (p * 8) + nI i) 240 := by rw [nI_add]; exact vp_in_nI (by omega) (by omega)
      have hc : (nI (p * 8) + nI i).toNatClampNeg = p * 8 + i := by rw [nI_add]; exact nI_clamp (by omega)
      have hK : K (.inl (some (.int (heldI P (p * 8 + i) x)))) (stripW 0 tl hb td tr lf tx rb N B R L G B2 R2 L2 G2 P W S Cc Y D) := hK
      refine ⟨p, rfl, rfl, ?_, ⟨?_, ?_, ?_, ?_, trivial⟩, by decide, by decide, by decide⟩
      · intro c4
        rw [heldI, if_neg (by rintro rfl; revert c4; decide), if_neg (by rintro rfl; revert c4; decide), if_neg (by rintro rfl; revert c4; decide), if_neg (by rintro rfl; revert c4; decide)] at hK
        exact hK
      · intro c4
        have c4 : x = nI 0 := tI (by decide) c4
        subst c4
        refine ⟨hv, ?_⟩
        rw [hc]; exact hK
      · intro c4
        have c4 : x = nI 1 := tI (by decide) c4
        subst c4
        refine ⟨hv, ?_⟩
        rw [hc]; exact hK
      · intro c4
        have c4 : x = nI 2 := tI (by decide) c4
        subst c4
        refine ⟨hv, ?_⟩
        rw [hc]; exact hK
      · intro c4
        have c4 : x = nI 3 := tI (by decide) c4
        subst c4
        refine ⟨hv, ?_⟩
        rw [hc]; exact hK
    · have c3 : ¬ i < P.2.1 (nI p).toNatClampNeg := c3
      rw [hcp, h3] at c3
      rw [decide_eq_false (fun z => c3 z.2)] at hK
      exact hK
def tX11_move : List q_I := [(0, .aload_n 0, 1, 0, 0), (1, .getfield 35, 3, 0, 0), (4, .iload_n 1, 1, 0, 0), (5, .invokevirtual 162, 3, 0, 0), (8, .ifCond .eq 15, 3, 0, 23), (11, .aload_n 0, 1, 0, 0), (12, .getfield 16, 3, 0, 0), (15, .iconst 0, 1, 0, 0), (16, .iload_n 2, 1, 0, 0), (17, .invokevirtual 145, 3, 0, 0), (20, .ifCond .ne 9, 3, 0, 29), (23, .aload_n 0, 1, 0, 0), (24, .iconst 1, 1, 1, 0), (25, .invokevirtual 190, 3, 0, 0), (28, .ireturn, 1, 0, 0), (29, .aload_n 0, 1, 0, 0), (30, .getfield 35, 3, 0, 0), (33, .getfield 193, 3, 0, 0), (36, .iload_n 1, 1, 0, 0), (37, .iaload, 1, 0, 0), (38, .iload_n 2, 1, 0, 0), (39, .if_icmp .ne 9, 3, 0, 48), (42, .aload_n 0, 1, 0, 0), (43, .iconst 5, 1, 5, 0), (44, .invokevirtual 190, 3, 0, 0), (47, .ireturn, 1, 0, 0), (48, .aload_n 0, 1, 0, 0), (49, .getfield 35, 3, 0, 0), (52, .getfield 193, 3, 0, 0), (55, .iload_n 1, 1, 0, 0), (56, .iload_n 2, 1, 0, 0), (57, .iastore, 1, 0, 0), (58, .aload_n 0, 1, 0, 0), (59, .iconst 0, 1, 0, 0), (60, .putfield 128, 3, 0, 0), (63, .iconst 1, 1, 1, 0), (64, .ireturn, 1, 0, 0)]
theorem tX11_move_ok : (tX11_move.all (q_okI cX11_move)) = true := by decide +kernel

abbrev fdX11_move : List (Nat ⊕ (Nat × Nat)) := [.inl 0, .inr (0, 0), .inr (0, 2), .inr (2, 0), .inr (2, 1), .inr (2, 2), .inr (2, 3), .inr (2, 5), .inr (7, 0), .inr (7, 1), .inr (7, 2), .inr (7, 3), .inr (7, 4), .inr (7, 5), .inr (7, 6), .inr (2, 6), .inr (15, 0), .inr (15, 1), .inr (15, 2), .inr (15, 3), .inr (15, 4), .inr (15, 5), .inr (15, 6), .inr (2, 7), .inr (23, 0), .inr (23, 1), .inr (23, 2), .inr (23, 3), .inr (23, 4), .inr (23, 5), .inr (23, 6), .inr (23, 7), .inr (0, 3), .inr (32, 0), .inr (32, 1), .inr (32, 2), .inr (32, 3), .inr (32, 5), .inr (37, 0), .inr (37, 1), .inr (37, 2), .inr (37, 3), .inr (37, 4), .inr (37, 5), .inr (37, 6), .inr (32, 6), .inr (45, 0), .inr (45, 1), .inr (45, 2), .inr (45, 3), .inr (45, 4), .inr (45, 5), .inr (45, 6), .inr (32, 7), .inr (53, 0), .inr (53, 1), .inr (53, 2), .inr (53, 3), .inr (53, 4), .inr (53, 5), .inr (53, 6), .inr (53, 7), .inr (0, 4), .inr (62, 2), .inr (0, 7), .inr (64, 0), .inr (64, 1), .inr (64, 2), .inr (64, 3), .inr (64, 4), .inr (64, 5), .inr (0, 8), .inr (71, 1), .inr (71, 2), .inr (71, 3), .inr (71, 4), .inr (71, 5), .inr (71, 6), .inr (0, 9), .inr (78, 0), .inr (78, 1), .inr (78, 2), .inr (78, 3), .inr (78, 4), .inr (0, 10), .inr (84, 0), .inr (84, 1), .inr (84, 2), .inr (84, 3), .inr (84, 4), .inr (84, 5), .inr (84, 6), .inr (0, 11), .inr (92, 0), .inr (92, 1), .inr (92, 2), .inr (92, 3), .inr (92, 4), .inr (92, 5), .inr (0, 12), .inr (99, 0), .inr (99, 1), .inr (99, 2)]
def spX11_move : q_P := fun a w K => ∃ (tl : Nat) (hb : Bool) (td : Int32) (tr : Int32) (lf : Int32) (tx : Nat → Int32) (rb : Value) (N : NT) (B : BT) (R : RT) (L : LT) (G : GT) (B2 : BT) (R2 : RT) (L2 : LT) (G2 : GT) (P : PT) (W : WT) (S : ST) (Cc : CT) (Y : YT) (D : DT) (p x : Int32), w = (stripW 0 tl hb td tr lf tx rb N B R L G B2 R2 L2 G2 P W S Cc Y D) ∧ a = [.ref 0, .int p, .int x] ∧ pOk P ∧ (if (perB P p && toldB B.1 0 x) = true then (if P.1 p.toNatClampNeg = x then K (.inl (some (.int 0))) (stripW 0 tl hb td (5) lf tx rb N B R L G B2 R2 L2 G2 P W S Cc Y D) else K (.inl (some (.int 1))) (stripW 0 tl hb td (0) lf tx rb N B R L G B2 R2 L2 G2 ((upd P.1 p.toNatClampNeg x, P.2)) W S Cc Y D)) else K (.inl (some (.int 0))) (stripW 0 tl hb td (1) lf tx rb N B R L G B2 R2 L2 G2 P W S Cc Y D))
abbrev csX11_move : q_S := (3, 11, 1, 3, 0, 0, fdX11_move, spX11_move)
theorem coX11_190 (l : Launch) : q_CO l RX11 190 csX11_decline := ⟨yX11_decline, cX11_decline, (some .boolean), 1, ⟨by decide +kernel, by decide +kernel, by decide +kernel⟩, q_G_i 1 (by decide +kernel) rfl, Or.inl ⟨by decide, rfl, rfl, q_G_i 815 (by decide +kernel) rfl, q_G_i 817 (by decide +kernel) rfl, q_G_s (n := 15) 23 (by decide +kernel), Or.inl ⟨q_G_i 818 (by decide +kernel) rfl, ctX11_decline l⟩⟩⟩
def EX11_move : q_E := (tX11_move, [], 3, flX11, [(162, csX6_has), (145, csX0_has), (190, csX11_decline)], [], [], [], [], [], 1, 0, 0, (some .boolean), [], [], 0, 0)
theorem okX11_move (l : Launch) : q_Eok l RX11 cX11_move EX11_move := ⟨tX11_move_ok, flX11_ok, List.forall_mem_cons.mpr ⟨(coX11_162 l), List.forall_mem_cons.mpr ⟨(coX11_145 l), List.forall_mem_cons.mpr ⟨(coX11_190 l), q_nil⟩⟩⟩, q_nil, q_nil, q_nil, q_nil, q_nil, (fun h => absurd h (by decide))⟩
set_option maxRecDepth 100000 in
set_option maxHeartbeats 4000000 in
theorem ctX11_move (l : Launch) : q_CT l yX11_move (.code yX11_move cX11_move 3 (some .boolean)) 1 0 0 spX11_move := by
  refine q_ct_of EX11_move (by decide +kernel) (okX11_move l) rfl rfl rfl rfl rfl q_nil (fun ci h => by cases h) rfl ?_
  intro a w K h
  obtain ⟨tl, hb, td, tr, lf, tx, rb, N, B, R, L, G, B2, R2, L2, G2, P, W, S, Cc, Y, D, p, x, rfl, rfl, ho, hK⟩ := h
  refine ⟨Nat.le_of_ble_eq_true rfl, fun C hC => hC _ _ _ _ _ _ ?_⟩
  refine ⟨P, p, rfl, rfl, And.intro (fun c => ?_) (fun c => ?_)⟩
  · have c : perB P p = false := bI_0.mp c
    rw [c] at hK
    exact ⟨_, _, _, _, _, _, rfl, rfl, rfl, hK⟩
  · have c : perB P p = true := bI_n0.mp c
    rw [c, Bool.true_and] at hK
    refine ⟨B.1, 0, x, _, _, _, _, _, _, _, rfl, rfl, by decide, And.intro (fun c2 => ?_) (fun c2 => ?_)⟩
    · have c2 : toldB B.1 0 x = true := bI_n0.mp c2
      rw [if_pos c2] at hK
      obtain ⟨p, rfl, hp, hcp⟩ := perI ho c
      have hv : vp_in (nI p) 30 := vp_in_nI (by have := ho.1; omega) (by omega)
      refine ⟨hv, And.intro (fun c3 => ?_) (fun c3 => ?_)⟩
      · rw [if_neg c3] at hK
        exact ⟨hv, rfl, hK⟩
      · rw [if_pos c3] at hK
        exact ⟨_, _, _, _, _, _, rfl, rfl, rfl, hK⟩
    · have c2 : toldB B.1 0 x = false := bI_0.mp c2
      rw [c2] at hK
      exact ⟨_, _, _, _, _, _, rfl, rfl, rfl, hK⟩
def tX11_is : List q_I := [(0, .aload_n 0, 1, 0, 0), (1, .getfield 35, 3, 0, 0), (4, .iload_n 1, 1, 0, 0), (5, .invokevirtual 162, 3, 0, 0), (8, .ifCond .eq 15, 3, 0, 23), (11, .aload_n 0, 1, 0, 0), (12, .getfield 16, 3, 0, 0), (15, .iconst 3, 1, 3, 0), (16, .iload_n 2, 1, 0, 0), (17, .invokevirtual 145, 3, 0, 0), (20, .ifCond .ne 9, 3, 0, 29), (23, .aload_n 0, 1, 0, 0), (24, .iconst 1, 1, 1, 0), (25, .invokevirtual 84, 3, 0, 0), (28, .ireturn, 1, 0, 0), (29, .iload_n 3, 1, 0, 0), (30, .invokestatic 152, 3, 0, 0), (33, .ifCond .ne 9, 3, 0, 42), (36, .aload_n 0, 1, 0, 0), (37, .iconst 2, 1, 2, 0), (38, .invokevirtual 84, 3, 0, 0), (41, .ireturn, 1, 0, 0), (42, .aload_n 0, 1, 0, 0), (43, .aload_n 0, 1, 0, 0), (44, .getfield 35, 3, 0, 0), (47, .iload_n 1, 1, 0, 0), (48, .iload_n 2, 1, 0, 0), (49, .iload_n 3, 1, 0, 0), (50, .aload_n 0, 1, 0, 0), (51, .getfield 16, 3, 0, 0), (54, .invokevirtual 196, 3, 0, 0), (57, .invokevirtual 113, 3, 0, 0), (60, .ireturn, 1, 0, 0)]
theorem tX11_is_ok : (tX11_is.all (q_okI cX11_is)) = true := by decide +kernel

abbrev fdX11_is : List (Nat ⊕ (Nat × Nat)) := [.inl 0, .inr (0, 0), .inr (0, 2), .inr (2, 0), .inr (2, 1), .inr (2, 2), .inr (2, 3), .inr (2, 5), .inr (7, 0), .inr (7, 1), .inr (7, 2), .inr (7, 3), .inr (7, 4), .inr (7, 5), .inr (7, 6), .inr (2, 6), .inr (15, 0), .inr (15, 1), .inr (15, 2), .inr (15, 3), .inr (15, 4), .inr (15, 5), .inr (15, 6), .inr (2, 7), .inr (23, 0), .inr (23, 1), .inr (23, 2), .inr (23, 3), .inr (23, 4), .inr (23, 5), .inr (23, 6), .inr (23, 7), .inr (0, 3), .inr (32, 0), .inr (32, 1), .inr (32, 2), .inr (32, 3), .inr (32, 5), .inr (37, 0), .inr (37, 1), .inr (37, 2), .inr (37, 3), .inr (37, 4), .inr (37, 5), .inr (37, 6), .inr (32, 6), .inr (45, 0), .inr (45, 1), .inr (45, 2), .inr (45, 3), .inr (45, 4), .inr (45, 5), .inr (45, 6), .inr (32, 7), .inr (53, 0), .inr (53, 1), .inr (53, 2), .inr (53, 3), .inr (53, 4), .inr (53, 5), .inr (53, 6), .inr (53, 7), .inr (0, 4), .inr (62, 2), .inr (0, 7), .inr (64, 0), .inr (64, 1), .inr (64, 2), .inr (64, 3), .inr (64, 4), .inr (64, 5), .inr (0, 8), .inr (71, 1), .inr (71, 2), .inr (71, 3), .inr (71, 4), .inr (71, 5), .inr (71, 6), .inr (0, 9), .inr (78, 0), .inr (78, 1), .inr (78, 2), .inr (78, 3), .inr (78, 4), .inr (0, 10), .inr (84, 0), .inr (84, 1), .inr (84, 2), .inr (84, 3), .inr (84, 4), .inr (84, 5), .inr (84, 6), .inr (0, 11), .inr (92, 0), .inr (92, 1), .inr (92, 2), .inr (92, 3), .inr (92, 4), .inr (92, 5), .inr (0, 12), .inr (99, 0), .inr (99, 1), .inr (99, 2)]
def spX11_is : q_P := fun a w K => ∃ (tl : Nat) (hb : Bool) (td : Int32) (tr : Int32) (lf : Int32) (tx : Nat → Int32) (rb : Value) (N : NT) (B : BT) (R : RT) (L : LT) (G : GT) (B2 : BT) (R2 : RT) (L2 : LT) (G2 : GT) (P : PT) (W : WT) (S : ST) (Cc : CT) (Y : YT) (D : DT) (n : Nat) (p k d : Int32), w = (stripW 0 tl hb td tr lf tx rb N B R L G B2 R2 L2 G2 P W S Cc Y D) ∧ a = [.ref 0, .int p, .int k, .int d] ∧ pOk P ∧ L_n L ≤ 24 ∧ B.1 1 = nI n ∧ n ≤ 5 ∧ (if (perB P p && toldB B.1 3 k) = true then (if dayB d = true then K (.inl (some (.int (landsG P L p.toNatClampNeg k d n)))) (stripW 0 tl hb td (0) lf tx rb N B R L G B2 R2 L2 G2 P W S Cc Y D) else K (.inl (some (.int (-1)))) (stripW 0 tl hb td (2) lf tx rb N B R L G B2 R2 L2 G2 P W S Cc Y D)) else K (.inl (some (.int (-1)))) (stripW 0 tl hb td (1) lf tx rb N B R L G B2 R2 L2 G2 P W S Cc Y D))
abbrev csX11_is : q_S := (4, 11, 4, 4, 0, 0, fdX11_is, spX11_is)
theorem coX11_196 (l : Launch) : q_CO l RX11 196 csX6_goodLands := ⟨yX6_goodLands, cX6_goodLands, (some .int), 4, ⟨by decide +kernel, by decide +kernel, by decide +kernel⟩, q_G_i 11 (by decide +kernel) rfl, Or.inl ⟨by decide, rfl, rfl, q_G_i 823 (by decide +kernel) rfl, q_G_i 824 (by decide +kernel) rfl, q_G_i 825 (by decide +kernel) rfl, Or.inl ⟨q_G_i 826 (by decide +kernel) rfl, ctX6_goodLands l⟩⟩⟩
def EX11_is : q_E := (tX11_is, [], 4, flX11, [(162, csX6_has), (145, csX0_has), (84, csX11_refuse), (152, csX11_isDay), (196, csX6_goodLands), (113, csX11_grant)], [], [], [], [], [], 4, 0, 0, (some .int), [], [], 0, 0)
theorem okX11_is (l : Launch) : q_Eok l RX11 cX11_is EX11_is := ⟨tX11_is_ok, flX11_ok, List.forall_mem_cons.mpr ⟨(coX11_162 l), List.forall_mem_cons.mpr ⟨(coX11_145 l), List.forall_mem_cons.mpr ⟨(coX11_84 l), List.forall_mem_cons.mpr ⟨(coX11_152 l), List.forall_mem_cons.mpr ⟨(coX11_196 l), List.forall_mem_cons.mpr ⟨(coX11_113 l), q_nil⟩⟩⟩⟩⟩⟩, q_nil, q_nil, q_nil, q_nil, q_nil, (fun h => absurd h (by decide))⟩
set_option maxRecDepth 100000 in
set_option maxHeartbeats 4000000 in
theorem ctX11_is (l : Launch) : q_CT l yX11_is (.code yX11_is cX11_is 4 (some .int)) 4 0 0 spX11_is := by
  refine q_ct_of EX11_is (by decide +kernel) (okX11_is l) rfl rfl rfl rfl rfl q_nil (fun ci h => by cases h) rfl ?_
  intro a w K h
  obtain ⟨tl, hb, td, tr, lf, tx, rb, N, B, R, L, G, B2, R2, L2, G2, P, W, S, Cc, Y, D, n, p, k, d, rfl, rfl, ho, hL, hB, hn, hK⟩ := h
  refine ⟨Nat.le_of_ble_eq_true rfl, fun C hC => hC _ _ _ _ _ _ ?_⟩
  refine ⟨P, p, rfl, rfl, And.intro (fun c => ?_) (fun c => ?_)⟩
  · have c : perB P p = false := bI_0.mp c
    rw [c] at hK
    exact ⟨_, _, _, _, _, _, rfl, rfl, hK⟩
  · have c : perB P p = true := bI_n0.mp c
    rw [c, Bool.true_and] at hK
    refine ⟨B.1, 3, k, _, _, _, _, _, _, _, rfl, rfl, by decide, And.intro (fun c2 => ?_) (fun c2 => ?_)⟩
    · have c2 : toldB B.1 3 k = true := bI_n0.mp c2
      rw [if_pos c2] at hK
      refine ⟨d, rfl, rfl, And.intro (fun c3 => ?_) (fun c3 => ?_)⟩
      · have c3 : dayB d = true := bI_n0.mp c3
        rw [if_pos c3] at hK
        obtain ⟨p, rfl, hp, hcp⟩ := perI ho c
        rw [hcp] at hK
        exact ⟨P, L, B.1, n, p, k, d, _, _, _, _, _, _, rfl, rfl, ho, hL, hp, hB, hn, _, _, _, _, _, _, rfl, rfl, hK⟩
      · have c3 : dayB d = false := bI_0.mp c3
        rw [c3] at hK
        exact ⟨_, _, _, _, _, _, rfl, rfl, hK⟩
    · have c2 : toldB B.1 3 k = false := bI_0.mp c2
      rw [c2] at hK
      exact ⟨_, _, _, _, _, _, rfl, rfl, hK⟩
def tX11_open : List q_I := [(0, .aload_n 0, 1, 0, 0), (1, .getfield 35, 3, 0, 0), (4, .iload_n 1, 1, 0, 0), (5, .invokevirtual 162, 3, 0, 0), (8, .ifCond .eq 21, 3, 0, 29), (11, .iload_n 2, 1, 0, 0), (12, .ifCond .lt 17, 3, 0, 29), (15, .iload_n 2, 1, 0, 0), (16, .aload_n 0, 1, 0, 0), (17, .getfield 16, 3, 0, 0), (20, .getfield 204, 3, 0, 0), (23, .getfield 208, 3, 0, 0), (26, .if_icmp .lt 9, 3, 0, 35), (29, .aload_n 0, 1, 0, 0), (30, .iconst 1, 1, 1, 0), (31, .invokevirtual 84, 3, 0, 0), (34, .ireturn, 1, 0, 0), (35, .iload_n 3, 1, 0, 0), (36, .invokestatic 152, 3, 0, 0), (39, .ifCond .ne 9, 3, 0, 48), (42, .aload_n 0, 1, 0, 0), (43, .iconst 2, 1, 2, 0), (44, .invokevirtual 84, 3, 0, 0), (47, .ireturn, 1, 0, 0), (48, .aload_n 0, 1, 0, 0), (49, .aload_n 0, 1, 0, 0), (50, .getfield 44, 3, 0, 0), (53, .aload_n 0, 1, 0, 0), (54, .getfield 16, 3, 0, 0), (57, .iload_n 1, 1, 0, 0), (58, .iload_n 2, 1, 0, 0), (59, .iload_n 3, 1, 0, 0), (60, .invokevirtual 211, 3, 0, 0), (63, .ifCond .eq 7, 3, 0, 70), (66, .iconst 1, 1, 1, 0), (67, .goto 4, 3, 0, 71), (70, .iconst 0, 1, 0, 0), (71, .invokevirtual 113, 3, 0, 0), (74, .ireturn, 1, 0, 0)]
theorem tX11_open_ok : (tX11_open.all (q_okI cX11_open)) = true := by decide +kernel

abbrev fdX11_open : List (Nat ⊕ (Nat × Nat)) := [.inl 0, .inr (0, 0), .inr (0, 2), .inr (2, 0), .inr (2, 1), .inr (2, 2), .inr (2, 3), .inr (2, 5), .inr (7, 0), .inr (7, 1), .inr (7, 2), .inr (7, 3), .inr (7, 4), .inr (7, 5), .inr (7, 6), .inr (2, 6), .inr (15, 0), .inr (15, 1), .inr (15, 2), .inr (15, 3), .inr (15, 4), .inr (15, 5), .inr (15, 6), .inr (2, 7), .inr (23, 0), .inr (23, 1), .inr (23, 2), .inr (23, 3), .inr (23, 4), .inr (23, 5), .inr (23, 6), .inr (23, 7), .inr (0, 3), .inr (32, 0), .inr (32, 1), .inr (32, 2), .inr (32, 3), .inr (32, 5), .inr (37, 0), .inr (37, 1), .inr (37, 2), .inr (37, 3), .inr (37, 4), .inr (37, 5), .inr (37, 6), .inr (32, 6), .inr (45, 0), .inr (45, 1), .inr (45, 2), .inr (45, 3), .inr (45, 4), .inr (45, 5), .inr (45, 6), .inr (32, 7), .inr (53, 0), .inr (53, 1), .inr (53, 2), .inr (53, 3), .inr (53, 4), .inr (53, 5), .inr (53, 6), .inr (53, 7), .inr (0, 4), .inr (62, 2), .inr (0, 7), .inr (64, 0), .inr (64, 1), .inr (64, 2), .inr (64, 3), .inr (64, 4), .inr (64, 5), .inr (0, 8), .inr (71, 1), .inr (71, 2), .inr (71, 3), .inr (71, 4), .inr (71, 5), .inr (71, 6), .inr (0, 9), .inr (78, 0), .inr (78, 1), .inr (78, 2), .inr (78, 3), .inr (78, 4), .inr (0, 10), .inr (84, 0), .inr (84, 1), .inr (84, 2), .inr (84, 3), .inr (84, 4), .inr (84, 5), .inr (84, 6), .inr (0, 11), .inr (92, 0), .inr (92, 1), .inr (92, 2), .inr (92, 3), .inr (92, 4), .inr (92, 5), .inr (0, 12), .inr (99, 0), .inr (99, 1), .inr (99, 2)]
def spX11_open : q_P := fun a w K => ∃ (tl : Nat) (hb : Bool) (td : Int32) (tr : Int32) (lf : Int32) (tx : Nat → Int32) (rb : Value) (N : NT) (B : BT) (R : RT) (L : LT) (G : GT) (B2 : BT) (R2 : RT) (L2 : LT) (G2 : GT) (P : PT) (W : WT) (S : ST) (Cc : CT) (Y : YT) (D : DT) (p r d : Int32), w = (stripW 0 tl hb td tr lf tx rb N B R L G B2 R2 L2 G2 P W S Cc Y D) ∧ a = [.ref 0, .int p, .int r, .int d] ∧ pOk P ∧ rOk R ∧ L_n L ≤ 24 ∧ (if (perB P p && decide (0 ≤ r ∧ r < nI R.2.2.2.2.2.2.2)) = true then (if dayB d = true then K (.inl (some (.int (bI (openB P L R p.toNatClampNeg r.toNatClampNeg d))))) (stripW 0 tl hb td (0) lf tx rb N B R L G B2 R2 L2 G2 P W S Cc Y D) else K (.inl (some (.int (-1)))) (stripW 0 tl hb td (2) lf tx rb N B R L G B2 R2 L2 G2 P W S Cc Y D)) else K (.inl (some (.int (-1)))) (stripW 0 tl hb td (1) lf tx rb N B R L G B2 R2 L2 G2 P W S Cc Y D))
abbrev csX11_open : q_S := (4, 11, 4, 4, 0, 0, fdX11_open, spX11_open)
theorem coX11_211 (l : Launch) : q_CO l RX11 211 csX10_isOpen := ⟨yX10_isOpen, cX10_isOpen, (some .boolean), 4, ⟨by decide +kernel, by decide +kernel, by decide +kernel⟩, q_G_i 12 (by decide +kernel) rfl, Or.inl ⟨by decide, rfl, rfl, q_G_i 854 (by decide +kernel) rfl, q_G_i 855 (by decide +kernel) rfl, q_G_i 856 (by decide +kernel) rfl, Or.inl ⟨q_G_i 857 (by decide +kernel) rfl, ctX10_isOpen l⟩⟩⟩
def EX11_open : q_E := (tX11_open, [], 4, flX11, [(162, csX6_has), (84, csX11_refuse), (152, csX11_isDay), (211, csX10_isOpen), (113, csX11_grant)], [], [], [], [], [], 4, 0, 0, (some .int), [], [], 0, 0)
theorem okX11_open (l : Launch) : q_Eok l RX11 cX11_open EX11_open := ⟨tX11_open_ok, flX11_ok, List.forall_mem_cons.mpr ⟨(coX11_162 l), List.forall_mem_cons.mpr ⟨(coX11_84 l), List.forall_mem_cons.mpr ⟨(coX11_152 l), List.forall_mem_cons.mpr ⟨(coX11_211 l), List.forall_mem_cons.mpr ⟨(coX11_113 l), q_nil⟩⟩⟩⟩⟩, q_nil, q_nil, q_nil, q_nil, q_nil, (fun h => absurd h (by decide))⟩
set_option maxRecDepth 100000 in
set_option maxHeartbeats 4000000 in
theorem ctX11_open (l : Launch) : q_CT l yX11_open (.code yX11_open cX11_open 4 (some .int)) 4 0 0 spX11_open := by
  refine q_ct_of EX11_open (by decide +kernel) (okX11_open l) rfl rfl rfl rfl rfl q_nil (fun ci h => by cases h) rfl ?_
  intro a w K h
  obtain ⟨tl, hb, td, tr, lf, tx, rb, N, B, R, L, G, B2, R2, L2, G2, P, W, S, Cc, Y, D, p, r, d, rfl, rfl, ho, hro, hL, hK⟩ := h
  refine ⟨Nat.le_of_ble_eq_true rfl, fun C hC => hC _ _ _ _ _ _ ?_⟩
  refine ⟨P, p, rfl, rfl, And.intro (fun c => ?_) (fun c => ?_)⟩
  · have c : perB P p = false := bI_0.mp c
    rw [c] at hK
    exact ⟨_, _, _, _, _, _, rfl, rfl, hK⟩
  · have c : perB P p = true := bI_n0.mp c
    rw [c, Bool.true_and] at hK
    refine And.intro (fun c1 => ?_) (fun c1 => And.intro (fun c2 => ?_) (fun c2 => ?_))
    · rw [decide_eq_false (fun z => absurd c1 (Int32.not_lt.mpr z.1))] at hK
      exact ⟨_, _, _, _, _, _, rfl, rfl, hK⟩
    · have c9 := And.intro (Int32.not_lt.mp c1) c2
      rw [decide_eq_true c9] at hK
      refine ⟨d, rfl, rfl, And.intro (fun c3 => ?_) (fun c3 => ?_)⟩
      · have c3 : dayB d = true := bI_n0.mp c3
        rw [c3] at hK
        obtain ⟨p, rfl, hp, hcp⟩ := perI ho c
        obtain ⟨r, rfl, hr⟩ := inI (by have := hro.1; omega) c9
        rw [hcp, nI_clamp (by have := hro.1; omega)] at hK
        refine ⟨P, R, L, p, r, d, _, rfl, rfl, ho, hro, hL, hp, hr, And.intro (fun c4 => ?_) (fun c4 => ?_)⟩
        · rw [bI_0.mp c4] at hK
          exact ⟨_, _, _, _, _, _, rfl, rfl, hK⟩
        · rw [bI_n0.mp c4] at hK
          exact ⟨_, _, _, _, _, _, rfl, rfl, hK⟩
      · have c3 : dayB d = false := bI_0.mp c3
        rw [c3] at hK
        exact ⟨_, _, _, _, _, _, rfl, rfl, hK⟩
    · rw [decide_eq_false (fun z => c2 z.2)] at hK
      exact ⟨_, _, _, _, _, _, rfl, rfl, hK⟩
