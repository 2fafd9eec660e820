set_option maxRecDepth 100000 in
set_option maxHeartbeats 6000000 in
theorem lw_ren0 {C : q_N} {ca sl : Nat} {w : List q_C} (hN : lwN C) (hw : w = (stripW 0 0 false 0 0 0 (fun _ => 0) (.ref 32) zNT zBT zRT zLT zGT zBT zRT zLT zGT zPT zWT zST zCT zYT zDT) ++ (modelB.map (q_sftT 103 none) ++ oW (fun _ => 0))) (h : C 23 (LVL 0) [] ((stripW 0 0 false 0 0 0 (fun _ => 0) (.ref 32) zNT zBT zRT zLT zGT zBT zRT zLT zGT zPT zWT zST zCT zYT zDT) ++ (oW (fun _ => 0) ++ sT (modelYN .null 0 0 (-1) 0 0 0 0 0 0 0 0 0 (-1) (-1) (fun _ => 0) zPT zDT (fun _ => 0) (fun _ => 0) (fun _ => 0) zST zCT zVT (fun _ => 0) 0 0))) ca sl) : C 23 [(0, .retAddr 90), (1, .ref 0), (2, .ref 103), (3, .ref 135), (4, .int 0)] [] w ca sl := by
  subst hw
  exact hN [0, 1, 2, 3, 4, 5, 6, 7, 8, 9, 10, 11, 12, 13, 14, 15, 16, 17, 18, 19, 20, 21, 22, 23, 24, 25, 26, 27, 28, 29, 30, 31, 32, 33, 34, 35, 36, 37, 38, 39, 40, 41, 42, 43, 44, 45, 46, 47, 48, 49, 50, 51, 52, 53, 54, 55, 56, 57, 58, 59, 60, 61, 62, 63, 64, 65, 66, 67, 68, 69, 70, 71, 72, 73, 74, 75, 76, 77, 78, 79, 80, 81, 82, 83, 84, 85, 86, 87, 88, 89, 90, 91, 92, 93, 94, 95, 96, 97, 98, 99, 100, 101, 102, 135, 103, 105, 106, 107, 108, 109, 110, 111, 112, 113, 114, 115, 116, 117, 118, 119, 120, 121, 122, 123, 124, 125, 126, 127, 128, 129, 130, 131, 132, 133, 134, 104] 23 _ (LVL 0) [] _ ca sl (by decide) (fun ad xd => rfl) (fun ad xd => rfl) h
theorem rw_init : RW ((stripW 0 0 false 0 0 0 (fun _ => 0) (.ref 32) zNT zBT zRT zLT zGT zBT zRT zLT zGT zPT zWT zST zCT zYT zDT) ++ (oW (fun _ => 0) ++ sT (modelYN .null 0 0 (-1) 0 0 0 0 0 0 0 0 0 (-1) (-1) (fun _ => 0) zPT zDT (fun _ => 0) (fun _ => 0) (fun _ => 0) zST zCT zVT (fun _ => 0) 0 0))) := rw0 ⟨by decide, fun _ => ⟨(by decide : (-128 : Int) ≤ (0 : Int32).toInt), (by decide : (0 : Int32).toInt ≤ 127)⟩, by rw [if_neg (by decide)], Or.inr rfl, by decide, by decide⟩ (Or.inl rfl)
set_option maxRecDepth 100000 in
set_option maxHeartbeats 6000000 in
theorem lw_init {Ls : Nat} {xs : Nat → Int32} {z : q_K} {C : q_N} (hC : lwGo Ls xs z C) (hN : lwN C) (h : ∀ ca sl, ca ≤ 1000 → sl ≤ 10000 → C 23 (LVL 0) [] ((stripW 0 0 false 0 0 0 (fun _ => 0) (.ref 32) zNT zBT zRT zLT zGT zBT zRT zLT zGT zPT zWT zST zCT zYT zDT) ++ (oW (fun _ => 0) ++ sT (modelYN .null 0 0 (-1) 0 0 0 0 0 0 0 0 0 (-1) (-1) (fun _ => 0) zPT zDT (fun _ => 0) (fun _ => 0) (fun _ => 0) zST zCT zVT (fun _ => 0) 0 0))) ca sl) : C 0 [(0, .retAddr 90)] [] [] 0 0 := by
  refine hC tL_init [(23, [0, 1, 2, 3, 4])] tL_init_ok _ _ _ _ _ _ ?_
  refine ⟨⟨Nat.le_of_ble_eq_true rfl, Nat.le_of_ble_eq_true rfl⟩, ?_⟩
  refine ⟨⟨Nat.le_of_ble_eq_true rfl, Nat.le_of_ble_eq_true rfl⟩, ?_⟩
  refine ⟨rfl, rfl, ?_⟩
  refine ⟨⟨Nat.le_of_ble_eq_true rfl, Nat.le_of_ble_eq_true rfl⟩, ?_⟩
  refine ⟨⟨Nat.le_of_ble_eq_true rfl, Nat.le_of_ble_eq_true rfl⟩, ?_⟩
  refine ⟨rfl, rfl, ?_⟩
  refine ⟨⟨rfl, Nat.le_of_ble_eq_true rfl, Nat.le_of_ble_eq_true rfl, Nat.le_of_ble_eq_true rfl⟩, ?_⟩
  refine lw_ren0 hN rfl (h _ _ (Nat.le_of_ble_eq_true rfl) (Nat.le_of_ble_eq_true rfl))
/-! ===== the law's end ===== -/
theorem law_Th {p : Program} {l : Launch} {e : Env} {R : Room} {s : State} {m : MethodId} {args : Array Value} {below : List Frame} {meth : Method} {c : Code} {D : va_G} {cy : Nat → ClassId} {xd : Nat → Nat} {A : Nat → Prop} {ad0 : Nat → Nat} {Q : State → Prop} {L : Nat} {xs : Nat → Int32} (t : List q_I) (cuts : List (Nat × List Nat)) : q_Th p l e R s m args below meth c D cy xd A 0 ad0 (EL t cuts L xs) Q (fun o _ => o = .inl (some (.int 1))) :=
  ⟨(fun pc p0 fs lv aw ca sl _ _ hz => (by cases hz)), (fun pc p0 h fs lv aw ca sl _ hh => (by cases hh))⟩

