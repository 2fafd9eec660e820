/-! ===== the JDK: Integer.bitCount ===== -/

def tJ6_bitCount_0f7a4 : List q_I := [(0, .iload_n 0, 1, 0, 0), (1, .iload_n 0, 1, 0, 0), (2, .iconst 1, 1, 1, 0), (3, .iushr, 1, 0, 0), (4, .ldc_w 265, 3, 0, 0), (7, .iand, 1, 0, 0), (8, .isub, 1, 0, 0), (9, .istore_n 0, 1, 0, 0), (10, .iload_n 0, 1, 0, 0), (11, .ldc_w 266, 3, 0, 0), (14, .iand, 1, 0, 0), (15, .iload_n 0, 1, 0, 0), (16, .iconst 2, 1, 2, 0), (17, .iushr, 1, 0, 0), (18, .ldc_w 266, 3, 0, 0), (21, .iand, 1, 0, 0), (22, .iadd, 1, 0, 0), (23, .istore_n 0, 1, 0, 0), (24, .iload_n 0, 1, 0, 0), (25, .iload_n 0, 1, 0, 0), (26, .iconst 4, 1, 4, 0), (27, .iushr, 1, 0, 0), (28, .iadd, 1, 0, 0), (29, .ldc_w 267, 3, 0, 0), (32, .iand, 1, 0, 0), (33, .istore_n 0, 1, 0, 0), (34, .iload_n 0, 1, 0, 0), (35, .iload_n 0, 1, 0, 0), (36, .bipush 8, 2, 8, 0), (38, .iushr, 1, 0, 0), (39, .iadd, 1, 0, 0), (40, .istore_n 0, 1, 0, 0), (41, .iload_n 0, 1, 0, 0), (42, .iload_n 0, 1, 0, 0), (43, .bipush 16, 2, 16, 0), (45, .iushr, 1, 0, 0), (46, .iadd, 1, 0, 0), (47, .istore_n 0, 1, 0, 0), (48, .iload_n 0, 1, 0, 0), (49, .bipush 63, 2, 63, 0), (51, .iand, 1, 0, 0), (52, .ireturn, 1, 0, 0)]
theorem tJ6_bitCount_0f7a4_ok : (tJ6_bitCount_0f7a4.all (q_okI cJ6_bitCount_0f7a4)) = true := by decide +kernel

abbrev fdJ6_bitCount_0f7a4 : List (Nat ⊕ (Nat × Nat)) := []
def ushI (x y : Int32) : Int32 := (x.toUInt32 >>> (y.toUInt32 &&& Int32.toUInt32 31)).toInt32
def bcI (x : Int32) : Int32 :=
  let a := x - (ushI x 1 &&& 1431655765)
  let b := (a &&& 858993459) + (ushI a 2 &&& 858993459)
  let c := (b + ushI b 4) &&& 252645135
  let d := c + ushI c 8
  let e := d + ushI d 16
  e &&& 63
def spJ6_bitCount_0f7a4 : q_P := fun a w K => ∃ (x : Int32), w = [] ∧ a = [.int x] ∧ K (.inl (some (.int (bcI x)))) []
abbrev csJ6_bitCount_0f7a4 : q_S := (1, 99, 0, 1, 0, 0, fdJ6_bitCount_0f7a4, spJ6_bitCount_0f7a4)
def EJ6_bitCount_0f7a4 : q_E := (tJ6_bitCount_0f7a4, [], 1, [], [], [], [(265, 1431655765), (266, 858993459), (267, 252645135)], [], [], [], 0, 0, 0, (some .int), [], [], 0, 0)
theorem okJ6_bitCount_0f7a4 (l : Launch) : q_Eok l RJ6 cJ6_bitCount_0f7a4 EJ6_bitCount_0f7a4 := ⟨tJ6_bitCount_0f7a4_ok, q_nil, q_nil, q_nil, List.forall_mem_cons.mpr ⟨q_G_i 960 (by decide +kernel) rfl, List.forall_mem_cons.mpr ⟨q_G_i 961 (by decide +kernel) rfl, List.forall_mem_cons.mpr ⟨q_G_i 962 (by decide +kernel) rfl, q_nil⟩⟩⟩, q_nil, q_nil, q_nil, (fun h => absurd h (by decide))⟩
set_option maxRecDepth 100000 in
set_option maxHeartbeats 4000000 in
theorem ctJ6_bitCount_0f7a4 (l : Launch) : q_CT l yJ6_bitCount_0f7a4 (.code yJ6_bitCount_0f7a4 cJ6_bitCount_0f7a4 1 (some .int)) 0 0 0 spJ6_bitCount_0f7a4 := by
  refine q_ct_of EJ6_bitCount_0f7a4 (by decide +kernel) (okJ6_bitCount_0f7a4 l) rfl rfl rfl rfl rfl q_nil (fun ci h => by cases h) rfl ?_
  intro a w K h
  obtain ⟨x, rfl, rfl, hK⟩ := h
  refine ⟨Nat.le_of_ble_eq_true rfl, fun C hC => hC _ _ _ _ _ _ ?_⟩
  exact hK
