theorem cntZ {x : Int32} {t : Int32} : cntI x (zBT.1 0) (zBT.1 1) (zBT.1 2) (zBT.1 3) (nI zRT.2.2.2.2.2.2.2) (nI zLT.2.2.2.2.2.2.2) (nI zGT.2.2.2.2.2.2.2.2) (nI zPT.2.2.2.2.2.2) (nI zST.2.2.2.2.2.1) (nI zCT.2.2.2.2.2.2.2) (nI zYT.2.2.2.2.2.2.2.1) (nI zDT.2.2.2) 0 t = if x = 13 then t else if inB x 0 12 = true then 0 else -1 := by
  show (if x = 0 then (0 : Int32) else if x = 1 then 0 else if x = 2 then 0 else if x = 3 then 0 else if x = 4 then 0 else if x = 5 then 0 else if x = 6 then 0 else if x = 7 then 0 else if x = 8 then 0 else if x = 9 then 0 else if x = 10 then 0 else if x = 11 then 0 else if x = 12 then 0 else if x = 13 then t else -1) = _
  by_cases h : inB x 0 12 = true
  · have hx := of_decide_eq_true h
    have h13 : ¬ x = 13 := fun z => by rw [z] at hx; exact absurd hx.2 (by decide)
    rw [if_neg h13, if_pos h]
    have h0 := hx.1
    have h1 := hx.2
    rw [Int32.le_iff_toInt_le] at h0 h1
    have e0 : (0 : Int32).toInt = 0 := rfl
    have e12 : (12 : Int32).toInt = 12 := rfl
    rw [e0] at h0
    rw [e12] at h1
    have : x.toInt = 0 ∨ x.toInt = 1 ∨ x.toInt = 2 ∨ x.toInt = 3 ∨ x.toInt = 4 ∨ x.toInt = 5 ∨ x.toInt = 6 ∨ x.toInt = 7 ∨ x.toInt = 8 ∨ x.toInt = 9 ∨ x.toInt = 10 ∨ x.toInt = 11 ∨ x.toInt = 12 := by omega
    rcases this with h | h | h | h | h | h | h | h | h | h | h | h | h
    all_goals
      rw [tI (by decide) h]
      rfl
  · have hn : ∀ j : Int32, 0 ≤ j → j ≤ 12 → ¬ x = j := fun j h0 h1 z => h (by rw [z]; exact decide_eq_true ⟨h0, h1⟩)
    rw [if_neg (hn 0 (by decide) (by decide)), if_neg (hn 1 (by decide) (by decide)), if_neg (hn 2 (by decide) (by decide)), if_neg (hn 3 (by decide) (by decide)), if_neg (hn 4 (by decide) (by decide)), if_neg (hn 5 (by decide) (by decide)), if_neg (hn 6 (by decide) (by decide)), if_neg (hn 7 (by decide) (by decide)), if_neg (hn 8 (by decide) (by decide)), if_neg (hn 9 (by decide) (by decide)), if_neg (hn 10 (by decide) (by decide)), if_neg (hn 11 (by decide) (by decide)), if_neg (hn 12 (by decide) (by decide)), if_neg h]

section O0
variable {l : Launch} {Ls i ca sl : Nat} {xs : Nat → Int32} {z : q_K} {C : q_N} {tl : Nat} {tr : Int32} {lf : Int32} {tx : Nat → Int32} {rb : Value} {N : NT} {B2 : BT} {R2 : RT} {L2 : LT} {G2 : GT} {W : WT} {th : Int32} {wh : Int32} {sz : Int32} {ix : Int32} {so : Int32} {pl : Int32} {nu : Int32} {wd : Int64} {ea : Nat → Int32} {pa : Nat → Int32} {co : Nat → Int32} {ba : Nat → Int32} {sk sp : Int32} {fr : Value} {f : Nat → Int64}
set_option maxRecDepth 100000
theorem o0_2 (hR : lwR l Ls xs z C) (hL : Ls ≤ 3072) (hi : i + 6 ≤ Ls) (hca : ca ≤ 601024) (hsl : sl ≤ 7293034) (hJ : rJ tl 0 tr tx rb N wh) (hf : frOk fr) (k : ∀ aw ca' sl', RW aw → ca' ≤ ca + 26 → sl' ≤ sl + 608 → C 23 (LVL (i + 6)) [] aw ca' sl') : C 302 (LVL i) [] ((stripW 0 tl false 0 tr lf tx rb N zBT zRT zLT zGT B2 R2 L2 G2 zPT W zST zCT zYT zDT) ++ (oW f ++ sT (modelYN fr th tr wh lf tl sz ix so pl nu wd 0 (-1) (-1) tx zPT zDT ea pa co zST zCT zVT ba sk sp))) ca sl := by
  obtain ⟨hC, hS, hM, -, -⟩ := hR
  refine m1_2 hC hL hi ?_
  refine hS 29 309 2 10 4 _ _ (coL_29 l) dcL_309 (by decide) (by decide) _ _ _ [.int (xs (i + 1))] [] _ _ rfl rfl rfl ⟨_, rfl⟩ (by decide) ?_
  refine ⟨_, _, _, _, _, _, _, _, _, _, _, _, _, _, _, _, _, _, _, _, _, _, _, rfl, rfl, hJ.1, hJ.2.2.2.1, (by decide), rOkZ, (by decide), gOkZ, ?_⟩
  split
  · next c => exact absurd c (by simp [toldZ, perZ, sortZ, rulZ, trvZ, pdyZ, conZ, rdZ])
  refine kS hJ.2.2.2.1 ?_
  refine m2_2 hC hL hi ?_
  refine cN hM (coL_32_n l) dcL_319 (by decide) (by decide) rfl [.int (xs (i + 1))] [_] hca hsl rfl rfl (by exact Nat.le_of_ble_eq_true rfl) hf ?_
  refine ⟨_, _, _, _, _, _, _, _, _, _, _, _, _, _, _, _, _, _, _, _, _, _, _, _, _, _, rfl, rfl, hf, ?_⟩
  refine kN hf ?_
  exact m3_2 hC rfl (k _ _ _ (rw0 (rJ_tr hJ (by decide)) hf) (Nat.le_add_right _ _) (Nat.le_add_right _ _))
theorem o0_3 (hR : lwR l Ls xs z C) (hL : Ls ≤ 3072) (hi : i + 6 ≤ Ls) (hca : ca ≤ 601024) (hsl : sl ≤ 7293034) (hJ : rJ tl 0 tr tx rb N wh) (hf : frOk fr) (k : ∀ aw ca' sl', RW aw → ca' ≤ ca + 26 → sl' ≤ sl + 608 → C 23 (LVL (i + 6)) [] aw ca' sl') : C 327 (LVL i) [] ((stripW 0 tl false 0 tr lf tx rb N zBT zRT zLT zGT B2 R2 L2 G2 zPT W zST zCT zYT zDT) ++ (oW f ++ sT (modelYN fr th tr wh lf tl sz ix so pl nu wd 0 (-1) (-1) tx zPT zDT ea pa co zST zCT zVT ba sk sp))) ca sl := by
  obtain ⟨hC, hS, hM, -, -⟩ := hR
  refine m1_3 hC hL hi ?_
  refine hS 33 328 1 0 1 _ _ (coL_33 l) dcL_328 (by decide) (by decide) _ _ _ [] [] _ _ rfl rfl rfl ⟨_, rfl⟩ (by decide) ?_
  refine ⟨_, _, _, _, _, _, _, _, _, _, _, _, _, _, _, _, _, _, _, _, _, _, rfl, rfl, ?_⟩
  refine kS hJ.2.2.2.1 ?_
  refine m2_3 hC hL hi ?_
  refine cN hM (coL_37_n l) dcL_332 (by decide) (by decide) rfl [] [_] hca hsl rfl rfl (by exact Nat.le_of_ble_eq_true rfl) hf ?_
  refine ⟨_, _, _, _, _, _, _, _, _, _, _, _, _, _, _, _, _, _, _, _, _, _, _, _, _, rfl, rfl, hf, ?_⟩
  refine kN hf ?_
  exact m3_3 hC rfl (k _ _ _ (rw0 hJ hf) (Nat.le_add_right _ _) (Nat.le_add_right _ _))
theorem o0_4 (hR : lwR l Ls xs z C) (hL : Ls ≤ 3072) (hi : i + 6 ≤ Ls) (hca : ca ≤ 601024) (hsl : sl ≤ 7293034) (hJ : rJ tl 0 tr tx rb N wh) (hf : frOk fr) (k : ∀ aw ca' sl', RW aw → ca' ≤ ca + 26 → sl' ≤ sl + 608 → C 23 (LVL (i + 6)) [] aw ca' sl') : C 340 (LVL i) [] ((stripW 0 tl false 0 tr lf tx rb N zBT zRT zLT zGT B2 R2 L2 G2 zPT W zST zCT zYT zDT) ++ (oW f ++ sT (modelYN fr th tr wh lf tl sz ix so pl nu wd 0 (-1) (-1) tx zPT zDT ea pa co zST zCT zVT ba sk sp))) ca sl := by
  obtain ⟨hC, hS, hM, -, -⟩ := hR
  refine m1_4 hC hL hi ?_
  refine hS 38 341 1 0 1 _ _ (coL_38 l) dcL_341 (by decide) (by decide) _ _ _ [] [] _ _ rfl rfl rfl ⟨_, rfl⟩ (by decide) ?_
  refine ⟨_, _, _, _, _, _, _, _, _, _, _, _, _, _, _, _, _, _, _, _, _, _, rfl, rfl, ?_⟩
  refine kS hJ.2.2.2.1 ?_
  refine m2_4 hC hL hi ?_
  refine cN hM (coL_41_n l) dcL_345 (by decide) (by decide) rfl [] [_] hca hsl rfl rfl (by exact Nat.le_of_ble_eq_true rfl) hf ?_
  refine ⟨_, _, _, _, _, _, _, _, _, _, _, _, _, _, _, _, _, _, _, _, _, _, _, _, _, rfl, rfl, hf, ?_⟩
  refine kN hf ?_
  exact m3_4 hC hJ.2.2.1.symm (k _ _ _ (rw0 hJ hf) (Nat.le_add_right _ _) (Nat.le_add_right _ _))
theorem o0_5 (hR : lwR l Ls xs z C) (hL : Ls ≤ 3072) (hi : i + 6 ≤ Ls) (hca : ca ≤ 601024) (hsl : sl ≤ 7293034) (hJ : rJ tl 0 tr tx rb N wh) (hf : frOk fr) (k : ∀ aw ca' sl', RW aw → ca' ≤ ca + 26 → sl' ≤ sl + 608 → C 23 (LVL (i + 6)) [] aw ca' sl') : C 353 (LVL i) [] ((stripW 0 tl false 0 tr lf tx rb N zBT zRT zLT zGT B2 R2 L2 G2 zPT W zST zCT zYT zDT) ++ (oW f ++ sT (modelYN fr th tr wh lf tl sz ix so pl nu wd 0 (-1) (-1) tx zPT zDT ea pa co zST zCT zVT ba sk sp))) ca sl := by
  obtain ⟨hC, hS, hM, -, -⟩ := hR
  refine m1_5 hC hL hi ?_
  refine hS 42 360 2 1 2 _ _ (coL_42 l) dcL_360 (by decide) (by decide) _ _ _ [.int (xs (i + 1))] [] _ _ rfl rfl rfl ⟨_, rfl⟩ (by decide) ?_
  refine ⟨_, _, _, _, _, _, _, _, _, _, _, _, _, _, _, _, _, _, _, _, _, _, _, rfl, rfl, ?_⟩
  split
  · next c => exact absurd c (by simp [toldZ, perZ, sortZ, rulZ, trvZ, pdyZ, conZ, rdZ])
  refine kS hJ.2.2.2.1 ?_
  refine m2_5 hC hL hi ?_
  refine cN hM (coL_45_n l) dcL_370 (by decide) (by decide) rfl [.int (xs (i + 1))] [_] hca hsl rfl rfl (by exact Nat.le_of_ble_eq_true rfl) hf ?_
  refine ⟨_, _, _, _, _, _, _, _, _, _, _, _, _, _, _, _, _, _, _, _, _, _, _, _, _, _, rfl, rfl, hf, ?_⟩
  refine kN hf ?_
  exact m3_5 hC rfl (k _ _ _ (rw0 (rJ_tr hJ (by decide)) hf) (Nat.le_add_right _ _) (Nat.le_add_right _ _))
theorem o0_6 (hR : lwR l Ls xs z C) (hL : Ls ≤ 3072) (hi : i + 6 ≤ Ls) (hca : ca ≤ 601024) (hsl : sl ≤ 7293034) (hJ : rJ tl 0 tr tx rb N wh) (hf : frOk fr) (k : ∀ aw ca' sl', RW aw → ca' ≤ ca + 26 → sl' ≤ sl + 608 → C 23 (LVL (i + 6)) [] aw ca' sl') : C 378 (LVL i) [] ((stripW 0 tl false 0 tr lf tx rb N zBT zRT zLT zGT B2 R2 L2 G2 zPT W zST zCT zYT zDT) ++ (oW f ++ sT (modelYN fr th tr wh lf tl sz ix so pl nu wd 0 (-1) (-1) tx zPT zDT ea pa co zST zCT zVT ba sk sp))) ca sl := by
  obtain ⟨hC, hS, hM, -, -⟩ := hR
  refine m1_6 hC hL hi ?_
  refine hS 46 409 6 3 8 _ _ (coL_46 l) dcL_409 (by decide) (by decide) _ _ _ [.int (xs (i + 1)), .int (xs (i + 2)), .int (xs (i + 3)), .int (xs (i + 4)), .int (xs (i + 5))] [] _ _ rfl rfl rfl ⟨_, rfl⟩ (by decide) ?_
  refine ⟨_, _, _, _, _, _, _, _, _, _, _, _, _, _, _, _, _, _, _, _, _, _, _, _, _, _, _, rfl, rfl, (by decide), ?_⟩
  split
  · next c => exact absurd c (by simp [toldZ, perZ, sortZ, rulZ, trvZ, pdyZ, conZ, rdZ])
  rw [rulZ]
  refine kS hJ.2.2.2.1 ?_
  refine m2_6 hC hL hi ?_
  refine cN hM (coL_49_n l) dcL_443 (by decide) (by decide) rfl [.int (xs (i + 1)), .int (xs (i + 2)), .int (xs (i + 3)), .int (xs (i + 4)), .int (xs (i + 5))] [_] hca hsl rfl rfl (by exact Nat.le_of_ble_eq_true rfl) hf ?_
  refine ⟨_, _, _, _, _, _, _, _, _, _, _, _, _, _, _, _, _, _, _, _, _, _, _, _, _, _, _, _, _, _, rfl, rfl, hf, ?_⟩
  refine kN hf ?_
  exact m3_6 hC rfl (k _ _ _ (rw0 (rJ_tr hJ (by decide)) hf) (Nat.le_add_right _ _) (Nat.le_add_right _ _))
theorem o0_7 (hR : lwR l Ls xs z C) (hL : Ls ≤ 3072) (hi : i + 6 ≤ Ls) (hca : ca ≤ 601024) (hsl : sl ≤ 7293034) (hJ : rJ tl 0 tr tx rb N wh) (hf : frOk fr) (k : ∀ aw ca' sl', RW aw → ca' ≤ ca + 26 → sl' ≤ sl + 608 → C 23 (LVL (i + 6)) [] aw ca' sl') : C 451 (LVL i) [] ((stripW 0 tl false 0 tr lf tx rb N zBT zRT zLT zGT B2 R2 L2 G2 zPT W zST zCT zYT zDT) ++ (oW f ++ sT (modelYN fr th tr wh lf tl sz ix so pl nu wd 0 (-1) (-1) tx zPT zDT ea pa co zST zCT zVT ba sk sp))) ca sl := by
  obtain ⟨hC, hS, hM, -, -⟩ := hR
  refine m1_7 hC hL hi ?_
  refine hS 50 482 6 3 8 _ _ (coL_50 l) dcL_482 (by decide) (by decide) _ _ _ [.int (xs (i + 1)), .int (xs (i + 2)), .int (xs (i + 3)), .int (xs (i + 4)), .int (xs (i + 5))] [] _ _ rfl rfl rfl ⟨_, rfl⟩ (by decide) ?_
  refine ⟨_, _, _, _, _, _, _, _, _, _, _, _, _, _, _, _, _, _, _, _, _, _, _, _, _, _, _, rfl, rfl, (by decide), ?_⟩
  split
  · next c => exact absurd c (by simp [toldZ, perZ, sortZ, rulZ, trvZ, pdyZ, conZ, rdZ])
  rw [rulZ]
  refine kS hJ.2.2.2.1 ?_
  refine m2_7 hC hL hi ?_
  refine cN hM (coL_53_n l) dcL_516 (by decide) (by decide) rfl [.int (xs (i + 1)), .int (xs (i + 2)), .int (xs (i + 3)), .int (xs (i + 4)), .int (xs (i + 5))] [_] hca hsl rfl rfl (by exact Nat.le_of_ble_eq_true rfl) hf ?_
  refine ⟨_, _, _, _, _, _, _, _, _, _, _, _, _, _, _, _, _, _, _, _, _, _, _, _, _, _, _, _, _, _, rfl, rfl, hf, ?_⟩
  refine kN hf ?_
  exact m3_7 hC rfl (k _ _ _ (rw0 (rJ_tr hJ (by decide)) hf) (Nat.le_add_right _ _) (Nat.le_add_right _ _))
theorem o0_8 (hR : lwR l Ls xs z C) (hL : Ls ≤ 3072) (hi : i + 6 ≤ Ls) (hca : ca ≤ 601024) (hsl : sl ≤ 7293034) (hJ : rJ tl 0 tr tx rb N wh) (hf : frOk fr) (k : ∀ aw ca' sl', RW aw → ca' ≤ ca + 26 → sl' ≤ sl + 608 → C 23 (LVL (i + 6)) [] aw ca' sl') : C 524 (LVL i) [] ((stripW 0 tl false 0 tr lf tx rb N zBT zRT zLT zGT B2 R2 L2 G2 zPT W zST zCT zYT zDT) ++ (oW f ++ sT (modelYN fr th tr wh lf tl sz ix so pl nu wd 0 (-1) (-1) tx zPT zDT ea pa co zST zCT zVT ba sk sp))) ca sl := by
  obtain ⟨hC, hS, hM, -, -⟩ := hR
  refine m1_8 hC hL hi ?_
  refine hS 54 531 2 1 2 _ _ (coL_54 l) dcL_531 (by decide) (by decide) _ _ _ [.int (xs (i + 1))] [] _ _ rfl rfl rfl ⟨_, rfl⟩ (by decide) ?_
  refine ⟨_, _, _, _, _, _, _, _, _, _, _, _, _, _, _, _, _, _, _, _, _, _, _, rfl, rfl, (by decide), ?_⟩
  split
  · next c => exact absurd c (by simp [toldZ, perZ, sortZ, rulZ, trvZ, pdyZ, conZ, rdZ])
  refine kS hJ.2.2.2.1 ?_
  refine m2_8 hC hL hi ?_
  refine cN hM (coL_57_n l) dcL_541 (by decide) (by decide) rfl [.int (xs (i + 1))] [_] hca hsl rfl rfl (by exact Nat.le_of_ble_eq_true rfl) hf ?_
  refine ⟨_, _, _, _, _, _, _, _, _, _, _, _, _, _, _, _, _, _, _, _, _, _, _, _, _, _, rfl, rfl, hf, ?_⟩
  refine kN hf ?_
  exact m3_8 hC rfl (k _ _ _ (rw0 (rJ_tr hJ (by decide)) hf) (Nat.le_add_right _ _) (Nat.le_add_right _ _))
theorem o0_9 (hR : lwR l Ls xs z C) (hL : Ls ≤ 3072) (hi : i + 6 ≤ Ls) (hca : ca ≤ 601024) (hsl : sl ≤ 7293034) (hJ : rJ tl 0 tr tx rb N wh) (hf : frOk fr) (k : ∀ aw ca' sl', RW aw → ca' ≤ ca + 26 → sl' ≤ sl + 608 → C 23 (LVL (i + 6)) [] aw ca' sl') : C 549 (LVL i) [] ((stripW 0 tl false 0 tr lf tx rb N zBT zRT zLT zGT B2 R2 L2 G2 zPT W zST zCT zYT zDT) ++ (oW f ++ sT (modelYN fr th tr wh lf tl sz ix so pl nu wd 0 (-1) (-1) tx zPT zDT ea pa co zST zCT zVT ba sk sp))) ca sl := by
  obtain ⟨hC, hS, hM, -, -⟩ := hR
  refine m1_9 hC hL hi ?_
  refine hS 58 580 6 2 6 _ _ (coL_58 l) dcL_580 (by decide) (by decide) _ _ _ [.int (xs (i + 1)), .int (xs (i + 2)), .int (xs (i + 3)), .int (xs (i + 4)), .int (xs (i + 5))] [] _ _ rfl rfl rfl ⟨_, rfl⟩ (by decide) ?_
  refine ⟨_, _, _, _, _, _, _, _, _, _, _, _, _, _, _, _, _, _, _, _, _, _, _, _, _, _, _, rfl, rfl, pOkZ, ?_⟩
  split
  · next c => exact absurd c (by simp [toldZ, perZ, sortZ, rulZ, trvZ, pdyZ, conZ, rdZ])
  refine kS hJ.2.2.2.1 ?_
  refine m2_9 hC hL hi ?_
  refine cN hM (coL_61_n l) dcL_614 (by decide) (by decide) rfl [.int (xs (i + 1)), .int (xs (i + 2)), .int (xs (i + 3)), .int (xs (i + 4)), .int (xs (i + 5))] [_] hca hsl rfl rfl (by exact Nat.le_of_ble_eq_true rfl) hf ?_
  refine ⟨_, _, _, _, _, _, _, _, _, _, _, _, _, _, _, _, _, _, _, _, _, _, _, _, _, _, _, _, _, _, rfl, rfl, hf, rfl, ?_⟩
  refine kN hf ?_
  exact m3_9 hC rfl (k _ _ _ (rw0 (rJ_tr hJ (by decide)) hf) (Nat.le_add_right _ _) (Nat.le_add_right _ _))
theorem o0_10 (hR : lwR l Ls xs z C) (hL : Ls ≤ 3072) (hi : i + 6 ≤ Ls) (hca : ca ≤ 601024) (hsl : sl ≤ 7293034) (hJ : rJ tl 0 tr tx rb N wh) (hf : frOk fr) (k : ∀ aw ca' sl', RW aw → ca' ≤ ca + 26 → sl' ≤ sl + 608 → C 23 (LVL (i + 6)) [] aw ca' sl') : C 622 (LVL i) [] ((stripW 0 tl false 0 tr lf tx rb N zBT zRT zLT zGT B2 R2 L2 G2 zPT W zST zCT zYT zDT) ++ (oW f ++ sT (modelYN fr th tr wh lf tl sz ix so pl nu wd 0 (-1) (-1) tx zPT zDT ea pa co zST zCT zVT ba sk sp))) ca sl := by
  obtain ⟨hC, hS, hM, -, -⟩ := hR
  refine m1_10 hC hL hi ?_
  refine hS 62 641 4 1 5 _ _ (coL_62 l) dcL_641 (by decide) (by decide) _ _ _ [.int (xs (i + 1)), .int (xs (i + 2)), .int (xs (i + 3))] [] _ _ rfl rfl rfl ⟨_, rfl⟩ (by decide) ?_
  refine ⟨_, _, _, _, _, _, _, _, _, _, _, _, _, _, _, _, _, _, _, _, _, _, _, _, _, rfl, rfl, pOkZ, ?_⟩
  split
  · next c => exact absurd c (by simp [toldZ, perZ, sortZ, rulZ, trvZ, pdyZ, conZ, rdZ])
  refine kS hJ.2.2.2.1 ?_
  refine m2_10 hC hL hi ?_
  refine cN hM (coL_66_n l) dcL_663 (by decide) (by decide) rfl [.int (xs (i + 1)), .int (xs (i + 2)), .int (xs (i + 3))] [_] hca hsl rfl rfl (by exact Nat.le_of_ble_eq_true rfl) hf ?_
  refine ⟨_, _, _, _, _, _, _, _, _, _, _, _, _, _, _, _, _, _, _, _, _, _, _, _, _, _, _, _, rfl, rfl, hf, rfl, ?_⟩
  refine kN hf ?_
  exact m3_10 hC rfl (k _ _ _ (rw0 hJ hf) (Nat.le_add_right _ _) (Nat.le_add_right _ _))
theorem o0_11 (hR : lwR l Ls xs z C) (hL : Ls ≤ 3072) (hi : i + 6 ≤ Ls) (hca : ca ≤ 601024) (hsl : sl ≤ 7293034) (hJ : rJ tl 0 tr tx rb N wh) (hf : frOk fr) (k : ∀ aw ca' sl', RW aw → ca' ≤ ca + 26 → sl' ≤ sl + 608 → C 23 (LVL (i + 6)) [] aw ca' sl') : C 671 (LVL i) [] ((stripW 0 tl false 0 tr lf tx rb N zBT zRT zLT zGT B2 R2 L2 G2 zPT W zST zCT zYT zDT) ++ (oW f ++ sT (modelYN fr th tr wh lf tl sz ix so pl nu wd 0 (-1) (-1) tx zPT zDT ea pa co zST zCT zVT ba sk sp))) ca sl := by
  obtain ⟨hC, hS, hM, -, -⟩ := hR
  refine m1_11 hC hL hi ?_
  refine hS 67 684 3 1 3 _ _ (coL_67 l) dcL_684 (by decide) (by decide) _ _ _ [.int (xs (i + 1)), .int (xs (i + 2))] [] _ _ rfl rfl rfl ⟨_, rfl⟩ (by decide) ?_
  refine ⟨_, _, _, _, _, _, _, _, _, _, _, _, _, _, _, _, _, _, _, _, _, _, _, _, rfl, rfl, pOkZ, ?_⟩
  split
  · next c => exact absurd c (by simp [toldZ, perZ, sortZ, rulZ, trvZ, pdyZ, conZ, rdZ])
  refine kS hJ.2.2.2.1 ?_
  refine m2_11 hC hL hi ?_
  refine cN hM (coL_71_n l) dcL_700 (by decide) (by decide) rfl [.int (xs (i + 1)), .int (xs (i + 2))] [_] hca hsl rfl rfl (by exact Nat.le_of_ble_eq_true rfl) hf ?_
  refine ⟨_, _, _, _, _, _, _, _, _, _, _, _, _, _, _, _, _, _, _, _, _, _, _, _, _, _, _, rfl, rfl, hf, rfl, ?_⟩
  refine kN hf ?_
  exact m3_11 hC rfl (k _ _ _ (rw0 (rJ_tr hJ (by decide)) hf) (Nat.le_add_right _ _) (Nat.le_add_right _ _))
theorem o0_12 (hR : lwR l Ls xs z C) (hL : Ls ≤ 3072) (hi : i + 6 ≤ Ls) (hca : ca ≤ 601024) (hsl : sl ≤ 7293034) (hJ : rJ tl 0 tr tx rb N wh) (hf : frOk fr) (k : ∀ aw ca' sl', RW aw → ca' ≤ ca + 26 → sl' ≤ sl + 608 → C 23 (LVL (i + 6)) [] aw ca' sl') : C 708 (LVL i) [] ((stripW 0 tl false 0 tr lf tx rb N zBT zRT zLT zGT B2 R2 L2 G2 zPT W zST zCT zYT zDT) ++ (oW f ++ sT (modelYN fr th tr wh lf tl sz ix so pl nu wd 0 (-1) (-1) tx zPT zDT ea pa co zST zCT zVT ba sk sp))) ca sl := by
  obtain ⟨hC, hS, hM, -, -⟩ := hR
  refine m1_12 hC hL hi ?_
  refine hS 72 727 4 4 4 _ _ (coL_72 l) dcL_727 (by decide) (by decide) _ _ _ [.int (xs (i + 1)), .int (xs (i + 2)), .int (xs (i + 3))] [] _ _ rfl rfl rfl ⟨_, rfl⟩ (by decide) ?_
  refine ⟨_, _, _, _, _, _, _, _, _, _, _, _, _, _, _, _, _, _, _, _, _, _, 0, _, _, _, rfl, rfl, pOkZ, (by decide), rfl, (by decide), ?_⟩
  split
  · next c => exact absurd c (by simp [toldZ, perZ, sortZ, rulZ, trvZ, pdyZ, conZ, rdZ])
  refine kS hJ.2.2.2.1 ?_
  refine m2_12 hC hL hi ?_
  refine cN hM (coL_75_n l) dcL_749 (by decide) (by decide) rfl [.int (xs (i + 1)), .int (xs (i + 2)), .int (xs (i + 3))] [_] hca hsl rfl rfl (by exact Nat.le_of_ble_eq_true rfl) hf ?_
  refine ⟨_, _, _, _, _, _, _, _, _, _, _, _, _, _, _, _, _, _, _, _, _, _, _, _, _, _, _, _, rfl, rfl, hf, rfl, ?_⟩
  refine kN hf ?_
  exact m3_12 hC rfl (k _ _ _ (rw0 (rJ_tr hJ (by decide)) hf) (Nat.le_add_right _ _) (Nat.le_add_right _ _))
theorem o0_13 (hR : lwR l Ls xs z C) (hL : Ls ≤ 3072) (hi : i + 6 ≤ Ls) (hca : ca ≤ 601024) (hsl : sl ≤ 7293034) (hJ : rJ tl 0 tr tx rb N wh) (hf : frOk fr) (k : ∀ aw ca' sl', RW aw → ca' ≤ ca + 26 → sl' ≤ sl + 608 → C 23 (LVL (i + 6)) [] aw ca' sl') : C 757 (LVL i) [] ((stripW 0 tl false 0 tr lf tx rb N zBT zRT zLT zGT B2 R2 L2 G2 zPT W zST zCT zYT zDT) ++ (oW f ++ sT (modelYN fr th tr wh lf tl sz ix so pl nu wd 0 (-1) (-1) tx zPT zDT ea pa co zST zCT zVT ba sk sp))) ca sl := by
  obtain ⟨hC, hS, hM, -, -⟩ := hR
  refine m1_13 hC hL hi ?_
  refine hS 76 770 3 4 5 _ _ (coL_76 l) dcL_770 (by decide) (by decide) _ _ _ [.int (xs (i + 1)), .int (xs (i + 2))] [] _ _ rfl rfl rfl ⟨_, rfl⟩ (by decide) ?_
  refine ⟨_, _, _, _, _, _, _, _, _, _, _, _, _, _, _, _, _, _, _, _, _, _, 0, _, _, rfl, rfl, pOkZ, (by decide), rfl, (by decide), ?_⟩
  split
  · next c => exact absurd c (by simp [toldZ, perZ, sortZ, rulZ, trvZ, pdyZ, conZ, rdZ])
  refine kS hJ.2.2.2.1 ?_
  refine m2_13 hC hL hi ?_
  refine cN hM (coL_80_n l) dcL_786 (by decide) (by decide) rfl [.int (xs (i + 1)), .int (xs (i + 2))] [_] hca hsl rfl rfl (by exact Nat.le_of_ble_eq_true rfl) hf ?_
  refine ⟨_, _, _, _, _, _, _, _, _, _, _, _, _, _, _, _, _, _, _, _, _, _, _, _, _, _, _, rfl, rfl, hf, ?_⟩
  refine kN hf ?_
  exact m3_13 hC rfl (k _ _ _ (rw0 (rJ_tr hJ (by decide)) hf) (Nat.le_add_right _ _) (Nat.le_add_right _ _))
theorem o0_14 (hR : lwR l Ls xs z C) (hL : Ls ≤ 3072) (hi : i + 6 ≤ Ls) (hca : ca ≤ 601024) (hsl : sl ≤ 7293034) (hJ : rJ tl 0 tr tx rb N wh) (hf : frOk fr) (k : ∀ aw ca' sl', RW aw → ca' ≤ ca + 26 → sl' ≤ sl + 608 → C 23 (LVL (i + 6)) [] aw ca' sl') : C 794 (LVL i) [] ((stripW 0 tl false 0 tr lf tx rb N zBT zRT zLT zGT B2 R2 L2 G2 zPT W zST zCT zYT zDT) ++ (oW f ++ sT (modelYN fr th tr wh lf tl sz ix so pl nu wd 0 (-1) (-1) tx zPT zDT ea pa co zST zCT zVT ba sk sp))) ca sl := by
  obtain ⟨hC, hS, hM, -, -⟩ := hR
  refine m1_14 hC hL hi ?_
  refine hS 81 813 4 4 4 _ _ (coL_81 l) dcL_813 (by decide) (by decide) _ _ _ [.int (xs (i + 1)), .int (xs (i + 2)), .int (xs (i + 3))] [] _ _ rfl rfl rfl ⟨_, rfl⟩ (by decide) ?_
  refine ⟨_, _, _, _, _, _, _, _, _, _, _, _, _, _, _, _, _, _, _, _, _, _, _, _, _, rfl, rfl, pOkZ, rOkZ, (by decide), ?_⟩
  split
  · next c => exact absurd c (by simp [toldZ, perZ, sortZ, rulZ, trvZ, pdyZ, conZ, rdZ])
  refine kS hJ.2.2.2.1 ?_
  refine m2_14 hC hL hi ?_
  refine cN hM (coL_84_n l) dcL_835 (by decide) (by decide) rfl [.int (xs (i + 1)), .int (xs (i + 2)), .int (xs (i + 3))] [_] hca hsl rfl rfl (by exact Nat.le_of_ble_eq_true rfl) hf ?_
  refine ⟨_, _, _, _, _, _, _, _, _, _, _, _, _, _, _, _, _, _, _, _, _, _, _, _, _, _, _, _, rfl, rfl, hf, rfl, ?_⟩
  refine kN hf ?_
  exact m3_14 hC rfl (k _ _ _ (rw0 (rJ_tr hJ (by decide)) hf) (Nat.le_add_right _ _) (Nat.le_add_right _ _))
theorem o0_15 (hR : lwR l Ls xs z C) (hL : Ls ≤ 3072) (hi : i + 6 ≤ Ls) (hca : ca ≤ 601024) (hsl : sl ≤ 7293034) (hJ : rJ tl 0 tr tx rb N wh) (hf : frOk fr) (k : ∀ aw ca' sl', RW aw → ca' ≤ ca + 26 → sl' ≤ sl + 608 → C 23 (LVL (i + 6)) [] aw ca' sl') : C 843 (LVL i) [] ((stripW 0 tl false 0 tr lf tx rb N zBT zRT zLT zGT B2 R2 L2 G2 zPT W zST zCT zYT zDT) ++ (oW f ++ sT (modelYN fr th tr wh lf tl sz ix so pl nu wd 0 (-1) (-1) tx zPT zDT ea pa co zST zCT zVT ba sk sp))) ca sl := by
  obtain ⟨hC, hS, hM, -, -⟩ := hR
  refine m1_15 hC hL hi ?_
  refine hS 85 862 4 6 5 _ _ (coL_85 l) dcL_862 (by decide) (by decide) _ _ _ [.int (xs (i + 1)), .int (xs (i + 2)), .int (xs (i + 3))] [] _ _ rfl rfl rfl ⟨_, rfl⟩ (by decide) ?_
  refine ⟨_, _, _, _, _, _, _, _, _, _, _, _, _, _, _, _, _, _, _, _, _, _, 0, _, _, _, rfl, rfl, pOkZ, pPlZ, rOkZ, rEndZ, (by decide), rfl, (by decide), ?_⟩
  split
  · next c => exact absurd c (by simp [toldZ, perZ, sortZ, rulZ, trvZ, pdyZ, conZ, rdZ])
  rw [trvZ]
  refine kS hJ.2.2.2.1 ?_
  refine m2_15 hC hL hi ?_
  refine cN hM (coL_88_n l) dcL_884 (by decide) (by decide) rfl [.int (xs (i + 1)), .int (xs (i + 2)), .int (xs (i + 3))] [_] hca hsl rfl rfl (by exact Nat.le_of_ble_eq_true rfl) hf ?_
  refine ⟨_, _, _, _, _, _, _, _, _, _, _, _, _, _, _, _, _, _, _, _, _, _, _, _, _, _, _, _, rfl, rfl, hf, rfl, ?_⟩
  refine kN hf ?_
  exact m3_15 hC rfl (k _ _ _ (rw0 (rJ_tr hJ (by decide)) hf) (Nat.le_add_right _ _) (Nat.le_add_right _ _))
theorem o0_16 (hR : lwR l Ls xs z C) (hL : Ls ≤ 3072) (hi : i + 6 ≤ Ls) (hca : ca ≤ 601024) (hsl : sl ≤ 7293034) (hJ : rJ tl 0 tr tx rb N wh) (hf : frOk fr) (k : ∀ aw ca' sl', RW aw → ca' ≤ ca + 26 → sl' ≤ sl + 608 → C 23 (LVL (i + 6)) [] aw ca' sl') : C 892 (LVL i) [] ((stripW 0 tl false 0 tr lf tx rb N zBT zRT zLT zGT B2 R2 L2 G2 zPT W zST zCT zYT zDT) ++ (oW f ++ sT (modelYN fr th tr wh lf tl sz ix so pl nu wd 0 (-1) (-1) tx zPT zDT ea pa co zST zCT zVT ba sk sp))) ca sl := by
  obtain ⟨hC, hS, hM, -, -⟩ := hR
  refine m1_16 hC hL hi ?_
  refine hS 89 911 4 5 5 _ _ (coL_89 l) dcL_911 (by decide) (by decide) _ _ _ [.int (xs (i + 1)), .int (xs (i + 2)), .int (xs (i + 3))] [] _ _ rfl rfl rfl ⟨_, rfl⟩ (by decide) ?_
  refine ⟨_, _, _, _, _, _, _, _, _, _, _, _, _, _, _, _, _, _, _, _, _, _, 0, _, _, _, rfl, rfl, pOkZ, pPlZ, rOkZ, rEndZ, (by decide), rfl, (by decide), ?_⟩
  split
  · next c => exact absurd c (by simp [toldZ, perZ, sortZ, rulZ, trvZ, pdyZ, conZ, rdZ])
  rw [trvZ]
  refine kS hJ.2.2.2.1 ?_
  refine m2_16 hC hL hi ?_
  refine cN hM (coL_92_n l) dcL_933 (by decide) (by decide) rfl [.int (xs (i + 1)), .int (xs (i + 2)), .int (xs (i + 3))] [_] hca hsl rfl rfl (by exact Nat.le_of_ble_eq_true rfl) hf ?_
  refine ⟨_, _, _, _, _, _, _, _, _, _, _, _, _, _, _, _, _, _, _, _, _, _, _, _, _, _, _, _, rfl, rfl, hf, rfl, ?_⟩
  refine kN hf ?_
  exact m3_16 hC rfl (k _ _ _ (rw0 (rJ_tr hJ (by decide)) hf) (Nat.le_add_right _ _) (Nat.le_add_right _ _))
theorem o0_17 (hR : lwR l Ls xs z C) (hL : Ls ≤ 3072) (hi : i + 6 ≤ Ls) (hca : ca ≤ 601024) (hsl : sl ≤ 7293034) (hJ : rJ tl 0 tr tx rb N wh) (hf : frOk fr) (k : ∀ aw ca' sl', RW aw → ca' ≤ ca + 26 → sl' ≤ sl + 608 → C 23 (LVL (i + 6)) [] aw ca' sl') : C 941 (LVL i) [] ((stripW 0 tl false 0 tr lf tx rb N zBT zRT zLT zGT B2 R2 L2 G2 zPT W zST zCT zYT zDT) ++ (oW f ++ sT (modelYN fr th tr wh lf tl sz ix so pl nu wd 0 (-1) (-1) tx zPT zDT ea pa co zST zCT zVT ba sk sp))) ca sl := by
  obtain ⟨hC, hS, hM, -, -⟩ := hR
  refine m1_17 hC hL hi ?_
  refine hS 93 954 3 5 4 _ _ (coL_93 l) dcL_954 (by decide) (by decide) _ _ _ [.int (xs (i + 1)), .int (xs (i + 2))] [] _ _ rfl rfl rfl ⟨_, rfl⟩ (by decide) ?_
  refine ⟨_, _, _, _, _, _, _, _, _, _, _, _, _, _, _, _, _, _, _, _, _, _, 0, _, _, rfl, rfl, pOkZ, pPlZ, rOkZ, (by decide), rfl, (by decide), ?_⟩
  split
  · next c => exact absurd c (by simp [toldZ, perZ, sortZ, rulZ, trvZ, pdyZ, conZ, rdZ])
  rw [pdyZ]
  refine kS hJ.2.2.2.1 ?_
  refine m2_17 hC hL hi ?_
  refine cN hM (coL_96_n l) dcL_970 (by decide) (by decide) rfl [.int (xs (i + 1)), .int (xs (i + 2))] [_] hca hsl rfl rfl (by exact Nat.le_of_ble_eq_true rfl) hf ?_
  refine ⟨_, _, _, _, _, _, _, _, _, _, _, _, _, _, _, _, _, _, _, _, _, _, _, _, _, _, _, rfl, rfl, hf, rfl, ?_⟩
  refine kN hf ?_
  exact m3_17 hC rfl (k _ _ _ (rw0 (rJ_tr hJ (by decide)) hf) (Nat.le_add_right _ _) (Nat.le_add_right _ _))
theorem o0_18 (hR : lwR l Ls xs z C) (hL : Ls ≤ 3072) (hi : i + 6 ≤ Ls) (hca : ca ≤ 601024) (hsl : sl ≤ 7293034) (hJ : rJ tl 0 tr tx rb N wh) (hf : frOk fr) (k : ∀ aw ca' sl', RW aw → ca' ≤ ca + 26 → sl' ≤ sl + 608 → C 23 (LVL (i + 6)) [] aw ca' sl') : C 978 (LVL i) [] ((stripW 0 tl false 0 tr lf tx rb N zBT zRT zLT zGT B2 R2 L2 G2 zPT W zST zCT zYT zDT) ++ (oW f ++ sT (modelYN fr th tr wh lf tl sz ix so pl nu wd 0 (-1) (-1) tx zPT zDT ea pa co zST zCT zVT ba sk sp))) ca sl := by
  obtain ⟨hC, hS, hM, -, -⟩ := hR
  refine m1_18 hC hL hi ?_
  refine hS 97 991 3 5 4 _ _ (coL_97 l) dcL_991 (by decide) (by decide) _ _ _ [.int (xs (i + 1)), .int (xs (i + 2))] [] _ _ rfl rfl rfl ⟨_, rfl⟩ (by decide) ?_
  refine ⟨_, _, _, _, _, _, _, _, _, _, _, _, _, _, _, _, _, _, _, _, _, _, 0, 0, 0, _, _, rfl, rfl, pOkZ, pPlZ, rOkZ, (by decide), rfl, (by decide), rfl, (by decide), rfl, (by decide), ?_⟩
  split
  · next c => exact absurd c (by simp [toldZ, perZ, sortZ, rulZ, trvZ, pdyZ, conZ, rdZ])
  rw [pdyZ]
  refine kS hJ.2.2.2.1 ?_
  refine m2_18 hC hL hi ?_
  refine cN hM (coL_100_n l) dcL_1007 (by decide) (by decide) rfl [.int (xs (i + 1)), .int (xs (i + 2))] [_] hca hsl rfl rfl (by exact Nat.le_of_ble_eq_true rfl) hf ?_
  refine ⟨_, _, _, _, _, _, _, _, _, _, _, _, _, _, _, _, _, _, _, _, _, _, _, _, _, _, _, rfl, rfl, hf, rfl, ?_⟩
  refine kN hf ?_
  exact m3_18 hC rfl (k _ _ _ (rw0 (rJ_tr hJ (by decide)) hf) (Nat.le_add_right _ _) (Nat.le_add_right _ _))
theorem o0_19 (hR : lwR l Ls xs z C) (hL : Ls ≤ 3072) (hi : i + 6 ≤ Ls) (hca : ca ≤ 601024) (hsl : sl ≤ 7293034) (hJ : rJ tl 0 tr tx rb N wh) (hf : frOk fr) (k : ∀ aw ca' sl', RW aw → ca' ≤ ca + 26 → sl' ≤ sl + 608 → C 23 (LVL (i + 6)) [] aw ca' sl') : C 1015 (LVL i) [] ((stripW 0 tl false 0 tr lf tx rb N zBT zRT zLT zGT B2 R2 L2 G2 zPT W zST zCT zYT zDT) ++ (oW f ++ sT (modelYN fr th tr wh lf tl sz ix so pl nu wd 0 (-1) (-1) tx zPT zDT ea pa co zST zCT zVT ba sk sp))) ca sl := by
  obtain ⟨hC, hS, hM, -, -⟩ := hR
  refine m1_19 hC hL hi ?_
  refine hS 101 1034 4 2 4 _ _ (coL_101 l) dcL_1034 (by decide) (by decide) _ _ _ [.int (xs (i + 1)), .int (xs (i + 2)), .int (xs (i + 3))] [] _ _ rfl rfl rfl ⟨_, rfl⟩ (by decide) ?_
  refine ⟨_, _, _, _, _, _, _, _, _, _, _, _, _, _, _, _, _, _, _, _, _, _, _, _, _, rfl, rfl, (by decide), ?_⟩
  split
  · next c => exact absurd c (by simp [toldZ, perZ, sortZ, rulZ, trvZ, pdyZ, conZ, rdZ])
  refine kS hJ.2.2.2.1 ?_
  refine m2_19 hC hL hi ?_
  refine cN hM (coL_104_n l) dcL_1056 (by decide) (by decide) rfl [.int (xs (i + 1)), .int (xs (i + 2)), .int (xs (i + 3))] [_] hca hsl rfl rfl (by exact Nat.le_of_ble_eq_true rfl) hf ?_
  refine ⟨_, _, _, _, _, _, _, _, _, _, _, _, _, _, _, _, _, _, _, _, _, _, _, _, _, _, _, _, rfl, rfl, hf, ?_⟩
  refine kN hf ?_
  exact m3_19 hC rfl (k _ _ _ (rw0 (rJ_tr hJ (by decide)) hf) (Nat.le_add_right _ _) (Nat.le_add_right _ _))
theorem o0_20 (hR : lwR l Ls xs z C) (hL : Ls ≤ 3072) (hi : i + 6 ≤ Ls) (hca : ca ≤ 601024) (hsl : sl ≤ 7293034) (hJ : rJ tl 0 tr tx rb N wh) (hf : frOk fr) (k : ∀ aw ca' sl', RW aw → ca' ≤ ca + 26 → sl' ≤ sl + 608 → C 23 (LVL (i + 6)) [] aw ca' sl') : C 1064 (LVL i) [] ((stripW 0 tl false 0 tr lf tx rb N zBT zRT zLT zGT B2 R2 L2 G2 zPT W zST zCT zYT zDT) ++ (oW f ++ sT (modelYN fr th tr wh lf tl sz ix so pl nu wd 0 (-1) (-1) tx zPT zDT ea pa co zST zCT zVT ba sk sp))) ca sl := by
  obtain ⟨hC, hS, hM, -, -⟩ := hR
  refine m1_20 hC hL hi ?_
  refine hS 105 1083 4 4 4 _ _ (coL_105 l) dcL_1083 (by decide) (by decide) _ _ _ [.int (xs (i + 1)), .int (xs (i + 2)), .int (xs (i + 3))] [] _ _ rfl rfl rfl ⟨_, rfl⟩ (by decide) ?_
  refine ⟨_, _, _, _, _, _, _, _, _, _, _, _, _, _, _, _, _, _, _, _, _, _, 0, _, _, _, rfl, rfl, rOkZ, (by decide), (by decide), rfl, (by decide), ?_⟩
  split
  · next c => exact absurd c (by simp [toldZ, perZ, sortZ, rulZ, trvZ, pdyZ, conZ, rdZ])
  refine kS hJ.2.2.2.1 ?_
  refine m2_20 hC hL hi ?_
  refine cN hM (coL_108_n l) dcL_1105 (by decide) (by decide) rfl [.int (xs (i + 1)), .int (xs (i + 2)), .int (xs (i + 3))] [_] hca hsl rfl rfl (by exact Nat.le_of_ble_eq_true rfl) hf ?_
  refine ⟨_, _, _, _, _, _, _, _, _, _, _, _, _, _, _, _, _, _, _, _, _, _, _, _, _, _, _, _, rfl, rfl, hf, ?_⟩
  refine kN hf ?_
  exact m3_20 hC rfl (k _ _ _ (rw0 (rJ_tr hJ (by decide)) hf) (Nat.le_add_right _ _) (Nat.le_add_right _ _))
theorem o0_21 (hR : lwR l Ls xs z C) (hL : Ls ≤ 3072) (hi : i + 6 ≤ Ls) (hca : ca ≤ 601024) (hsl : sl ≤ 7293034) (hJ : rJ tl 0 tr tx rb N wh) (hf : frOk fr) (k : ∀ aw ca' sl', RW aw → ca' ≤ ca + 26 → sl' ≤ sl + 608 → C 23 (LVL (i + 6)) [] aw ca' sl') : C 1113 (LVL i) [] ((stripW 0 tl false 0 tr lf tx rb N zBT zRT zLT zGT B2 R2 L2 G2 zPT W zST zCT zYT zDT) ++ (oW f ++ sT (modelYN fr th tr wh lf tl sz ix so pl nu wd 0 (-1) (-1) tx zPT zDT ea pa co zST zCT zVT ba sk sp))) ca sl := by
  obtain ⟨hC, hS, hM, -, -⟩ := hR
  refine m1_21 hC hL hi ?_
  refine hS 109 1114 1 0 1 _ _ (coL_109 l) dcL_1114 (by decide) (by decide) _ _ _ [] [] _ _ rfl rfl rfl ⟨_, rfl⟩ (by decide) ?_
  refine ⟨_, _, _, _, _, _, _, _, _, _, _, _, _, _, _, _, _, _, _, _, _, _, rfl, rfl, ?_⟩
  refine kS hJ.2.2.2.1 ?_
  refine m2_21 hC hL hi ?_
  refine cN hM (coL_112_n l) dcL_1118 (by decide) (by decide) rfl [] [_] hca hsl rfl rfl (by exact Nat.le_of_ble_eq_true rfl) hf ?_
  refine ⟨_, _, _, _, _, _, _, _, _, _, _, _, _, _, _, _, _, _, _, _, _, _, _, _, _, rfl, rfl, hf, ?_⟩
  refine kN hf ?_
  exact m3_21 hC rfl (k _ _ _ (rw0 hJ hf) (Nat.le_add_right _ _) (Nat.le_add_right _ _))
theorem o0_22 (hR : lwR l Ls xs z C) (hL : Ls ≤ 3072) (hi : i + 6 ≤ Ls) (hca : ca ≤ 601024) (hsl : sl ≤ 7293034) (hJ : rJ tl 0 tr tx rb N wh) (hf : frOk fr) (k : ∀ aw ca' sl', RW aw → ca' ≤ ca + 26 → sl' ≤ sl + 608 → C 23 (LVL (i + 6)) [] aw ca' sl') : C 1126 (LVL i) [] ((stripW 0 tl false 0 tr lf tx rb N zBT zRT zLT zGT B2 R2 L2 G2 zPT W zST zCT zYT zDT) ++ (oW f ++ sT (modelYN fr th tr wh lf tl sz ix so pl nu wd 0 (-1) (-1) tx zPT zDT ea pa co zST zCT zVT ba sk sp))) ca sl := by
  obtain ⟨hC, hS, hM, -, -⟩ := hR
  refine m1_22 hC hL hi ?_
  refine hS 113 1133 2 5 3 _ _ (coL_113 l) dcL_1133 (by decide) (by decide) _ _ _ [.int (xs (i + 1))] [] _ _ rfl rfl rfl ⟨_, rfl⟩ (by decide) ?_
  refine ⟨_, _, _, _, _, _, _, _, _, _, _, _, _, _, _, _, _, _, _, _, _, _, _, rfl, rfl, pOkZ, gOkZ, ?_⟩
  split
  · next c => exact absurd c (by simp [toldZ, perZ, sortZ, rulZ, trvZ, pdyZ, conZ, rdZ])
  refine kS hJ.2.2.2.1 ?_
  refine m2_22 hC hL hi ?_
  refine cN hM (coL_116_n l) dcL_1143 (by decide) (by decide) rfl [.int (xs (i + 1))] [_] hca hsl rfl rfl (by exact Nat.le_of_ble_eq_true rfl) hf ?_
  refine ⟨_, _, _, _, _, _, _, _, _, _, _, _, _, _, _, _, _, _, _, _, _, _, _, _, _, _, rfl, rfl, hf, rfl, ?_⟩
  refine kN hf ?_
  exact m3_22 hC rfl (k _ _ _ (rw0 (rJ_tr hJ (by decide)) hf) (Nat.le_add_right _ _) (Nat.le_add_right _ _))
theorem o0_23 (hR : lwR l Ls xs z C) (hL : Ls ≤ 3072) (hi : i + 6 ≤ Ls) (hca : ca ≤ 601024) (hsl : sl ≤ 7293034) (hJ : rJ tl 0 tr tx rb N wh) (hf : frOk fr) (k : ∀ aw ca' sl', RW aw → ca' ≤ ca + 26 → sl' ≤ sl + 608 → C 23 (LVL (i + 6)) [] aw ca' sl') : C 1151 (LVL i) [] ((stripW 0 tl false 0 tr lf tx rb N zBT zRT zLT zGT B2 R2 L2 G2 zPT W zST zCT zYT zDT) ++ (oW f ++ sT (modelYN fr th tr wh lf tl sz ix so pl nu wd 0 (-1) (-1) tx zPT zDT ea pa co zST zCT zVT ba sk sp))) ca sl := by
  obtain ⟨hC, hS, hM, -, -⟩ := hR
  refine m1_23 hC hL hi ?_
  refine hS 117 1182 6 2 6 _ _ (coL_117 l) dcL_1182 (by decide) (by decide) _ _ _ [.int (xs (i + 1)), .int (xs (i + 2)), .int (xs (i + 3)), .int (xs (i + 4)), .int (xs (i + 5))] [] _ _ rfl rfl rfl ⟨_, rfl⟩ (by decide) ?_
  refine ⟨_, _, _, _, _, _, _, _, _, _, _, _, _, _, _, _, _, _, _, _, _, _, _, _, _, _, _, rfl, rfl, (by decide), ?_⟩
  split
  · next c => exact absurd c (by simp [toldZ, perZ, sortZ, rulZ, trvZ, pdyZ, conZ, rdZ])
  refine kS hJ.2.2.2.1 ?_
  refine m2_23 hC hL hi ?_
  refine cN hM (coL_120_n l) dcL_1216 (by decide) (by decide) rfl [.int (xs (i + 1)), .int (xs (i + 2)), .int (xs (i + 3)), .int (xs (i + 4)), .int (xs (i + 5))] [_] hca hsl rfl rfl (by exact Nat.le_of_ble_eq_true rfl) hf ?_
  refine ⟨_, _, _, _, _, _, _, _, _, _, _, _, _, _, _, _, _, _, _, _, _, _, _, _, _, _, _, _, _, _, rfl, rfl, hf, ?_⟩
  refine kN hf ?_
  exact m3_23 hC rfl (k _ _ _ (rw0 (rJ_tr hJ (by decide)) hf) (Nat.le_add_right _ _) (Nat.le_add_right _ _))
theorem o0_24 (hR : lwR l Ls xs z C) (hL : Ls ≤ 3072) (hi : i + 6 ≤ Ls) (hca : ca ≤ 601024) (hsl : sl ≤ 7293034) (hJ : rJ tl 0 tr tx rb N wh) (hf : frOk fr) (k : ∀ aw ca' sl', RW aw → ca' ≤ ca + 26 → sl' ≤ sl + 608 → C 23 (LVL (i + 6)) [] aw ca' sl') : C 1224 (LVL i) [] ((stripW 0 tl false 0 tr lf tx rb N zBT zRT zLT zGT B2 R2 L2 G2 zPT W zST zCT zYT zDT) ++ (oW f ++ sT (modelYN fr th tr wh lf tl sz ix so pl nu wd 0 (-1) (-1) tx zPT zDT ea pa co zST zCT zVT ba sk sp))) ca sl := by
  obtain ⟨hC, hS, hM, -, -⟩ := hR
  refine m1_24 hC hL hi ?_
  refine hS 121 1249 5 3 5 _ _ (coL_121 l) dcL_1249 (by decide) (by decide) _ _ _ [.int (xs (i + 1)), .int (xs (i + 2)), .int (xs (i + 3)), .int (xs (i + 4))] [] _ _ rfl rfl rfl ⟨_, rfl⟩ (by decide) ?_
  refine ⟨_, _, _, _, _, _, _, _, _, _, _, _, _, _, _, _, _, _, _, _, _, _, _, _, _, _, rfl, rfl, (by decide), (by decide), ?_⟩
  split
  · next c => exact absurd c (by simp [toldZ, perZ, sortZ, rulZ, trvZ, pdyZ, conZ, rdZ])
  refine kS hJ.2.2.2.1 ?_
  refine m2_24 hC hL hi ?_
  refine cN hM (coL_124_n l) dcL_1277 (by decide) (by decide) rfl [.int (xs (i + 1)), .int (xs (i + 2)), .int (xs (i + 3)), .int (xs (i + 4))] [_] hca hsl rfl rfl (by exact Nat.le_of_ble_eq_true rfl) hf ?_
  refine ⟨_, _, _, _, _, _, _, _, _, _, _, _, _, _, _, _, _, _, _, _, _, _, _, _, _, _, _, _, _, rfl, rfl, hf, rfl, ?_⟩
  refine kN hf ?_
  exact m3_24 hC rfl (k _ _ _ (rw0 (rJ_tr hJ (by decide)) hf) (Nat.le_add_right _ _) (Nat.le_add_right _ _))
theorem o0_25 (hR : lwR l Ls xs z C) (hL : Ls ≤ 3072) (hi : i + 6 ≤ Ls) (hca : ca ≤ 601024) (hsl : sl ≤ 7293034) (hJ : rJ tl 0 tr tx rb N wh) (hf : frOk fr) (k : ∀ aw ca' sl', RW aw → ca' ≤ ca + 26 → sl' ≤ sl + 608 → C 23 (LVL (i + 6)) [] aw ca' sl') : C 1285 (LVL i) [] ((stripW 0 tl false 0 tr lf tx rb N zBT zRT zLT zGT B2 R2 L2 G2 zPT W zST zCT zYT zDT) ++ (oW f ++ sT (modelYN fr th tr wh lf tl sz ix so pl nu wd 0 (-1) (-1) tx zPT zDT ea pa co zST zCT zVT ba sk sp))) ca sl := by
  obtain ⟨hC, hS, hM, -, -⟩ := hR
  refine m1_25 hC hL hi ?_
  refine hS 125 1304 4 4 4 _ _ (coL_125 l) dcL_1304 (by decide) (by decide) _ _ _ [.int (xs (i + 1)), .int (xs (i + 2)), .int (xs (i + 3))] [] _ _ rfl rfl rfl ⟨_, rfl⟩ (by decide) ?_
  refine ⟨_, _, _, _, _, _, _, _, _, _, _, _, _, _, _, _, _, _, _, _, _, _, 0, _, _, _, rfl, rfl, (by decide), (by decide), rfl, (by decide), ?_⟩
  split
  · next c => exact absurd c (by simp [toldZ, perZ, sortZ, rulZ, trvZ, pdyZ, conZ, rdZ])
  refine kS hJ.2.2.2.1 ?_
  refine m2_25 hC hL hi ?_
  refine cN hM (coL_128_n l) dcL_1326 (by decide) (by decide) rfl [.int (xs (i + 1)), .int (xs (i + 2)), .int (xs (i + 3))] [_] hca hsl rfl rfl (by exact Nat.le_of_ble_eq_true rfl) hf ?_
  refine ⟨_, _, _, _, _, _, _, _, _, _, _, _, _, _, _, _, _, _, _, _, _, _, _, _, _, _, _, _, rfl, rfl, hf, rfl, ?_⟩
  refine kN hf ?_
  exact m3_25 hC rfl (k _ _ _ (rw0 (rJ_tr hJ (by decide)) hf) (Nat.le_add_right _ _) (Nat.le_add_right _ _))
theorem o0_26 (hR : lwR l Ls xs z C) (hL : Ls ≤ 3072) (hi : i + 6 ≤ Ls) (hca : ca ≤ 601024) (hsl : sl ≤ 7293034) (hJ : rJ tl 0 tr tx rb N wh) (hf : frOk fr) (k : ∀ aw ca' sl', RW aw → ca' ≤ ca + 26 → sl' ≤ sl + 608 → C 23 (LVL (i + 6)) [] aw ca' sl') : C 1334 (LVL i) [] ((stripW 0 tl false 0 tr lf tx rb N zBT zRT zLT zGT B2 R2 L2 G2 zPT W zST zCT zYT zDT) ++ (oW f ++ sT (modelYN fr th tr wh lf tl sz ix so pl nu wd 0 (-1) (-1) tx zPT zDT ea pa co zST zCT zVT ba sk sp))) ca sl := by
  obtain ⟨hC, hS, hM, -, -⟩ := hR
  refine m1_26 hC hL hi ?_
  refine hS 129 1347 3 1 3 _ _ (coL_129 l) dcL_1347 (by decide) (by decide) _ _ _ [.int (xs (i + 1)), .int (xs (i + 2))] [] _ _ rfl rfl rfl ⟨_, rfl⟩ (by decide) ?_
  refine ⟨_, _, _, _, _, _, _, _, _, _, _, _, _, _, _, _, _, _, _, _, _, _, _, _, rfl, rfl, tOkZ, ?_⟩
  split
  · next c => exact absurd c (by simp [toldZ, perZ, sortZ, rulZ, trvZ, pdyZ, conZ, rdZ])
  refine kS hJ.2.2.2.1 ?_
  refine m2_26 hC hL hi ?_
  refine cN hM (coL_132_n l) dcL_1363 (by decide) (by decide) rfl [.int (xs (i + 1)), .int (xs (i + 2))] [_] hca hsl rfl rfl (by exact Nat.le_of_ble_eq_true rfl) hf ?_
  refine ⟨_, _, _, _, _, _, _, _, _, _, _, _, _, _, _, _, _, _, _, _, _, _, _, _, _, _, _, rfl, rfl, hf, ?_⟩
  refine kN hf ?_
  exact m3_26 hC rfl (k _ _ _ (rw0 (rJ_tr hJ (by decide)) hf) (Nat.le_add_right _ _) (Nat.le_add_right _ _))
theorem o0_27 (hR : lwR l Ls xs z C) (hL : Ls ≤ 3072) (hi : i + 6 ≤ Ls) (hca : ca ≤ 601024) (hsl : sl ≤ 7293034) (hJ : rJ tl 0 tr tx rb N wh) (hf : frOk fr) (k : ∀ aw ca' sl', RW aw → ca' ≤ ca + 26 → sl' ≤ sl + 608 → C 23 (LVL (i + 6)) [] aw ca' sl') : C 1371 (LVL i) [] ((stripW 0 tl false 0 tr lf tx rb N zBT zRT zLT zGT B2 R2 L2 G2 zPT W zST zCT zYT zDT) ++ (oW f ++ sT (modelYN fr th tr wh lf tl sz ix so pl nu wd 0 (-1) (-1) tx zPT zDT ea pa co zST zCT zVT ba sk sp))) ca sl := by
  obtain ⟨hC, hS, hM, -, -⟩ := hR
  refine m1_27 hC hL hi ?_
  refine hS 133 1384 3 1 3 _ _ (coL_133 l) dcL_1384 (by decide) (by decide) _ _ _ [.int (xs (i + 1)), .int (xs (i + 2))] [] _ _ rfl rfl rfl ⟨_, rfl⟩ (by decide) ?_
  refine ⟨_, _, _, _, _, _, _, _, _, _, _, _, _, _, _, _, _, _, _, _, _, _, _, _, rfl, rfl, (by decide), ?_⟩
  split
  · next c => exact absurd c (by simp [toldZ, perZ, sortZ, rulZ, trvZ, pdyZ, conZ, rdZ])
  refine kS hJ.2.2.2.1 ?_
  refine m2_27 hC hL hi ?_
  refine cN hM (coL_136_n l) dcL_1400 (by decide) (by decide) rfl [.int (xs (i + 1)), .int (xs (i + 2))] [_] hca hsl rfl rfl (by exact Nat.le_of_ble_eq_true rfl) hf ?_
  refine ⟨_, _, _, _, _, _, _, _, _, _, _, _, _, _, _, _, _, _, _, _, _, _, _, _, _, _, _, rfl, rfl, hf, ?_⟩
  refine kN hf ?_
  exact m3_27 hC rfl (k _ _ _ (rw0 (rJ_tr hJ (by decide)) hf) (Nat.le_add_right _ _) (Nat.le_add_right _ _))
theorem o0_28 (hR : lwR l Ls xs z C) (hL : Ls ≤ 3072) (hi : i + 6 ≤ Ls) (hca : ca ≤ 601024) (hsl : sl ≤ 7293034) (hJ : rJ tl 0 tr tx rb N wh) (hf : frOk fr) (k : ∀ aw ca' sl', RW aw → ca' ≤ ca + 26 → sl' ≤ sl + 608 → C 23 (LVL (i + 6)) [] aw ca' sl') : C 1408 (LVL i) [] ((stripW 0 tl false 0 tr lf tx rb N zBT zRT zLT zGT B2 R2 L2 G2 zPT W zST zCT zYT zDT) ++ (oW f ++ sT (modelYN fr th tr wh lf tl sz ix so pl nu wd 0 (-1) (-1) tx zPT zDT ea pa co zST zCT zVT ba sk sp))) ca sl := by
  obtain ⟨hC, hS, hM, -, -⟩ := hR
  refine m1_28 hC hL hi ?_
  refine hS 137 1409 1 13 1 _ _ (coL_137 l) dcL_1409 (by decide) (by decide) _ _ _ [] [] _ _ rfl rfl rfl ⟨_, rfl⟩ (by decide) ?_
  refine ⟨_, _, _, _, _, _, _, _, _, _, _, _, _, _, _, _, _, _, _, _, _, _, rfl, rfl, tOkZ, ?_⟩
  split
  · next c => exact absurd c (by simp [toldZ, perZ, sortZ, rulZ, trvZ, pdyZ, conZ, rdZ])
  refine kS hJ.2.2.2.1 ?_
  refine m2_28 hC hL hi ?_
  refine cN hM (coL_140_n l) dcL_1413 (by decide) (by decide) rfl [] [_] hca hsl rfl rfl (by exact Nat.le_of_ble_eq_true rfl) hf ?_
  refine ⟨_, _, _, _, _, _, _, _, _, _, _, _, _, _, _, _, _, _, _, _, _, _, _, _, _, rfl, rfl, hf, ?_⟩
  refine kN hf ?_
  exact m3_28 hC rfl (k _ _ _ (rw0 (rJ_tr hJ (by decide)) hf) (Nat.le_add_right _ _) (Nat.le_add_right _ _))
theorem o0_29 (hR : lwR l Ls xs z C) (hL : Ls ≤ 3072) (hi : i + 6 ≤ Ls) (hca : ca ≤ 601024) (hsl : sl ≤ 7293034) (hJ : rJ tl 0 tr tx rb N wh) (hf : frOk fr) (k : ∀ aw ca' sl', RW aw → ca' ≤ ca + 26 → sl' ≤ sl + 608 → C 23 (LVL (i + 6)) [] aw ca' sl') : C 1421 (LVL i) [] ((stripW 0 tl false 0 tr lf tx rb N zBT zRT zLT zGT B2 R2 L2 G2 zPT W zST zCT zYT zDT) ++ (oW f ++ sT (modelYN fr th tr wh lf tl sz ix so pl nu wd 0 (-1) (-1) tx zPT zDT ea pa co zST zCT zVT ba sk sp))) ca sl := by
  obtain ⟨hC, hS, hM, -, -⟩ := hR
  refine m1_29 hC hL hi ?_
  refine hS 141 1428 2 13 2 _ _ (coL_141 l) dcL_1428 (by decide) (by decide) _ _ _ [.int (xs (i + 1))] [] _ _ rfl rfl rfl ⟨_, rfl⟩ (by decide) ?_
  refine ⟨_, _, _, _, _, _, _, _, _, _, _, _, _, _, _, _, _, _, _, _, _, _, _, rfl, rfl, tOkZ, ?_⟩
  split
  · next c => exact absurd c (by simp [toldZ, perZ, sortZ, rulZ, trvZ, pdyZ, conZ, rdZ])
  refine kS hJ.2.2.2.1 ?_
  refine m2_29 hC hL hi ?_
  refine cN hM (coL_144_n l) dcL_1438 (by decide) (by decide) rfl [.int (xs (i + 1))] [_] hca hsl rfl rfl (by exact Nat.le_of_ble_eq_true rfl) hf ?_
  refine ⟨_, _, _, _, _, _, _, _, _, _, _, _, _, _, _, _, _, _, _, _, _, _, _, _, _, _, rfl, rfl, hf, ?_⟩
  refine kN hf ?_
  exact m3_29 hC rfl (k _ _ _ (rw0 (rJ_tr hJ (by decide)) hf) (Nat.le_add_right _ _) (Nat.le_add_right _ _))
theorem o0_30 (hR : lwR l Ls xs z C) (hL : Ls ≤ 3072) (hi : i + 6 ≤ Ls) (hca : ca ≤ 601024) (hsl : sl ≤ 7293034) (hJ : rJ tl 0 tr tx rb N wh) (hf : frOk fr) (k : ∀ aw ca' sl', RW aw → ca' ≤ ca + 26 → sl' ≤ sl + 608 → C 23 (LVL (i + 6)) [] aw ca' sl') : C 1446 (LVL i) [] ((stripW 0 tl false 0 tr lf tx rb N zBT zRT zLT zGT B2 R2 L2 G2 zPT W zST zCT zYT zDT) ++ (oW f ++ sT (modelYN fr th tr wh lf tl sz ix so pl nu wd 0 (-1) (-1) tx zPT zDT ea pa co zST zCT zVT ba sk sp))) ca sl := by
  obtain ⟨hC, hS, hM, -, -⟩ := hR
  refine m1_30 hC hL hi ?_
  refine hS 145 1459 3 1 3 _ _ (coL_145 l) dcL_1459 (by decide) (by decide) _ _ _ [.int (xs (i + 1)), .int (xs (i + 2))] [] _ _ rfl rfl rfl ⟨_, rfl⟩ (by decide) ?_
  refine ⟨_, _, _, _, _, _, _, _, _, _, _, _, _, _, _, _, _, _, _, _, _, _, _, _, rfl, rfl, (by decide), ?_⟩
  split
  · next c => exact absurd c (by simp [toldZ, perZ, sortZ, rulZ, trvZ, pdyZ, conZ, rdZ])
  refine kS hJ.2.2.2.1 ?_
  refine m2_30 hC hL hi ?_
  refine cN hM (coL_148_n l) dcL_1475 (by decide) (by decide) rfl [.int (xs (i + 1)), .int (xs (i + 2))] [_] hca hsl rfl rfl (by exact Nat.le_of_ble_eq_true rfl) hf ?_
  refine ⟨_, _, _, _, _, _, _, _, _, _, _, _, _, _, _, _, _, _, _, _, _, _, _, _, _, _, _, rfl, rfl, hf, rfl, ?_⟩
  refine kN hf ?_
  exact m3_30 hC rfl (k _ _ _ (rw0 (rJ_tr hJ (by decide)) hf) (Nat.le_add_right _ _) (Nat.le_add_right _ _))
theorem o0_31 (hR : lwR l Ls xs z C) (hL : Ls ≤ 3072) (hi : i + 6 ≤ Ls) (hca : ca ≤ 601024) (hsl : sl ≤ 7293034) (hJ : rJ tl 0 tr tx rb N wh) (hf : frOk fr) (k : ∀ aw ca' sl', RW aw → ca' ≤ ca + 26 → sl' ≤ sl + 608 → C 23 (LVL (i + 6)) [] aw ca' sl') : C 1483 (LVL i) [] ((stripW 0 tl false 0 tr lf tx rb N zBT zRT zLT zGT B2 R2 L2 G2 zPT W zST zCT zYT zDT) ++ (oW f ++ sT (modelYN fr th tr wh lf tl sz ix so pl nu wd 0 (-1) (-1) tx zPT zDT ea pa co zST zCT zVT ba sk sp))) ca sl := by
  obtain ⟨hC, hS, hM, -, -⟩ := hR
  refine m1_31 hC hL hi ?_
  refine hS 149 1496 3 1 3 _ _ (coL_149 l) dcL_1496 (by decide) (by decide) _ _ _ [.int (xs (i + 1)), .int (xs (i + 2))] [] _ _ rfl rfl rfl ⟨_, rfl⟩ (by decide) ?_
  refine ⟨_, _, _, _, _, _, _, _, _, _, _, _, _, _, _, _, _, _, _, _, _, _, _, _, rfl, rfl, dNmZ, ?_⟩
  split
  · next c => exact absurd c (by simp [toldZ, perZ, sortZ, rulZ, trvZ, pdyZ, conZ, rdZ])
  refine kSl hJ.2.2.2.1 ?_
  refine m2_31 hC hL hi ?_
  refine cN hM (coL_153_n l) dcL_1512 (by decide) (by decide) rfl [.int (xs (i + 1)), .int (xs (i + 2))] [_] hca hsl rfl rfl (by exact Nat.le_of_ble_eq_true rfl) hf ?_
  refine ⟨_, _, _, _, _, _, _, _, _, _, _, _, _, _, _, _, _, _, _, _, _, _, _, _, _, _, _, rfl, rfl, hf, rfl, ?_⟩
  refine kNl hf ?_
  exact m3_31 hC rfl (k _ _ _ (rw0 (rJ_tr hJ (by decide)) hf) (Nat.le_add_right _ _) (Nat.le_add_right _ _))
theorem o0_32 (hR : lwR l Ls xs z C) (hL : Ls ≤ 3072) (hi : i + 6 ≤ Ls) (hca : ca ≤ 601024) (hsl : sl ≤ 7293034) (hJ : rJ tl 0 tr tx rb N wh) (hf : frOk fr) (k : ∀ aw ca' sl', RW aw → ca' ≤ ca + 26 → sl' ≤ sl + 608 → C 23 (LVL (i + 6)) [] aw ca' sl') : C 1521 (LVL i) [] ((stripW 0 tl false 0 tr lf tx rb N zBT zRT zLT zGT B2 R2 L2 G2 zPT W zST zCT zYT zDT) ++ (oW f ++ sT (modelYN fr th tr wh lf tl sz ix so pl nu wd 0 (-1) (-1) tx zPT zDT ea pa co zST zCT zVT ba sk sp))) ca sl := by
  obtain ⟨hC, hS, hM, -, -⟩ := hR
  refine m1_32 hC hL hi ?_
  refine hS 154 1534 3 1 3 _ _ (coL_154 l) dcL_1534 (by decide) (by decide) _ _ _ [.int (xs (i + 1)), .int (xs (i + 2))] [] _ _ rfl rfl rfl ⟨_, rfl⟩ (by decide) ?_
  refine ⟨_, _, _, _, _, _, _, _, _, _, _, _, _, _, _, _, _, _, _, _, _, _, _, _, rfl, rfl, (by decide), ?_⟩
  split
  · next c => exact absurd c (by simp [toldZ, perZ, sortZ, rulZ, trvZ, pdyZ, conZ, rdZ])
  refine kS hJ.2.2.2.1 ?_
  refine m2_32 hC hL hi ?_
  refine cN hM (coL_157_n l) dcL_1550 (by decide) (by decide) rfl [.int (xs (i + 1)), .int (xs (i + 2))] [_] hca hsl rfl rfl (by exact Nat.le_of_ble_eq_true rfl) hf ?_
  refine ⟨_, _, _, _, _, _, _, _, _, _, _, _, _, _, _, _, _, _, _, _, _, _, _, _, _, _, _, rfl, rfl, hf, rfl, ?_⟩
  refine kN hf ?_
  exact m3_32 hC rfl (k _ _ _ (rw0 (rJ_tr hJ (by decide)) hf) (Nat.le_add_right _ _) (Nat.le_add_right _ _))
theorem o0_33 (hR : lwR l Ls xs z C) (hL : Ls ≤ 3072) (hi : i + 6 ≤ Ls) (hca : ca ≤ 601024) (hsl : sl ≤ 7293034) (hJ : rJ tl 0 tr tx rb N wh) (hf : frOk fr) (k : ∀ aw ca' sl', RW aw → ca' ≤ ca + 26 → sl' ≤ sl + 608 → C 23 (LVL (i + 6)) [] aw ca' sl') : C 1558 (LVL i) [] ((stripW 0 tl false 0 tr lf tx rb N zBT zRT zLT zGT B2 R2 L2 G2 zPT W zST zCT zYT zDT) ++ (oW f ++ sT (modelYN fr th tr wh lf tl sz ix so pl nu wd 0 (-1) (-1) tx zPT zDT ea pa co zST zCT zVT ba sk sp))) ca sl := by
  obtain ⟨hC, hS, hM, -, -⟩ := hR
  refine m1_33 hC hL hi ?_
  refine hS 158 1565 2 1 2 _ _ (coL_158 l) dcL_1565 (by decide) (by decide) _ _ _ [.int (xs (i + 1))] [] _ _ rfl rfl rfl ⟨_, rfl⟩ (by decide) ?_
  refine ⟨_, _, _, _, _, _, _, _, _, _, _, _, _, _, _, _, _, _, _, _, _, _, _, rfl, rfl, pOkZ, ?_⟩
  refine kSl hJ.2.2.2.1 ?_
  refine m2_33 hC hL hi ?_
  refine cN hM (coL_162_n l) dcL_1575 (by decide) (by decide) rfl [.int (xs (i + 1))] [_] hca hsl rfl rfl (by exact Nat.le_of_ble_eq_true rfl) hf ?_
  refine ⟨_, _, _, _, _, _, _, _, _, _, _, _, _, _, _, _, _, _, _, _, _, _, _, _, _, _, rfl, rfl, hf, rfl, ?_⟩
  refine kNl hf ?_
  exact m3_33 hC (by rw [if_neg (by rw [perZ]; decide)]) (k _ _ _ (rw0 hJ hf) (Nat.le_add_right _ _) (Nat.le_add_right _ _))
theorem o0_35 (hR : lwR l Ls xs z C) (hL : Ls ≤ 3072) (hi : i + 6 ≤ Ls) (hca : ca ≤ 601024) (hsl : sl ≤ 7293034) (hJ : rJ tl 0 tr tx rb N wh) (hf : frOk fr) (k : ∀ aw ca' sl', RW aw → ca' ≤ ca + 26 → sl' ≤ sl + 608 → C 23 (LVL (i + 6)) [] aw ca' sl') : C 1676 (LVL i) [] ((stripW 0 tl false 0 tr lf tx rb N zBT zRT zLT zGT B2 R2 L2 G2 zPT W zST zCT zYT zDT) ++ (oW f ++ sT (modelYN fr th tr wh lf tl sz ix so pl nu wd 0 (-1) (-1) tx zPT zDT ea pa co zST zCT zVT ba sk sp))) ca sl := by
  obtain ⟨hC, hS, hM, -, -⟩ := hR
  refine m1_35 hC hL hi ?_
  refine hS 172 1683 2 0 2 _ _ (coL_172 l) dcL_1683 (by decide) (by decide) _ _ _ [.int (xs (i + 1))] [] _ _ rfl rfl rfl ⟨_, rfl⟩ (by decide) ?_
  refine ⟨_, _, _, _, _, _, _, _, _, _, _, _, _, _, _, _, _, _, _, _, _, _, _, rfl, rfl, ?_⟩
  refine kS hJ.2.2.2.1 ?_
  refine m2_35 hC hL hi ?_
  refine cN hM (coL_175_n l) dcL_1693 (by decide) (by decide) rfl [.int (xs (i + 1))] [_] hca hsl rfl rfl (by exact Nat.le_of_ble_eq_true rfl) hf ?_
  refine ⟨_, _, _, _, _, _, _, _, _, _, _, _, _, _, _, _, _, _, _, _, _, _, _, _, _, _, rfl, rfl, hf, ?_⟩
  refine kN hf ?_
  exact m3_35 hC cntZ (k _ _ _ (rw0 hJ hf) (Nat.le_add_right _ _) (Nat.le_add_right _ _))
theorem o0_36 (hR : lwR l Ls xs z C) (hL : Ls ≤ 3072) (hi : i + 6 ≤ Ls) (hca : ca ≤ 601024) (hsl : sl ≤ 7293034) (hJ : rJ tl 0 tr tx rb N wh) (hf : frOk fr) (k : ∀ aw ca' sl', RW aw → ca' ≤ ca + 26 → sl' ≤ sl + 608 → C 23 (LVL (i + 6)) [] aw ca' sl') : C 1701 (LVL i) [] ((stripW 0 tl false 0 tr lf tx rb N zBT zRT zLT zGT B2 R2 L2 G2 zPT W zST zCT zYT zDT) ++ (oW f ++ sT (modelYN fr th tr wh lf tl sz ix so pl nu wd 0 (-1) (-1) tx zPT zDT ea pa co zST zCT zVT ba sk sp))) ca sl := by
  obtain ⟨hC, hS, hM, -, -⟩ := hR
  refine m1_36 hC hL hi ?_
  refine hS 176 1702 1 0 1 _ _ (coL_176 l) dcL_1702 (by decide) (by decide) _ _ _ [] [] _ _ rfl rfl rfl ⟨_, rfl⟩ (by decide) ?_
  refine ⟨_, _, _, _, _, _, _, _, _, _, _, _, _, _, _, _, _, _, _, _, _, _, rfl, rfl, ?_⟩
  refine kS hJ.2.2.2.1 ?_
  refine m2_36 hC hL hi ?_
  refine cN hM (coL_179_n l) dcL_1706 (by decide) (by decide) rfl [] [_] hca hsl rfl rfl (by exact Nat.le_of_ble_eq_true rfl) hf ?_
  refine ⟨_, _, _, _, _, _, _, _, _, _, _, _, _, _, _, _, _, _, _, _, _, _, _, _, _, rfl, rfl, hf, ?_⟩
  refine kN hf ?_
  exact m3_36 hC rfl (k _ _ _ (rw0 hJ hf) (Nat.le_add_right _ _) (Nat.le_add_right _ _))
end O0

