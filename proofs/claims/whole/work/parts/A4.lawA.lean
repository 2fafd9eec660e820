section O1
variable {l : Launch} {Ls i ca sl : Nat} {xs : Nat → Int32} {z : q_K} {C : q_N} {tl : Nat} {td : Int32} {tr : Int32} {lf : Int32} {tx : Nat → Int32} {rb : Value} {N : NT} {B : BT} {R : RT} {L : LT} {G : GT} {B2 : BT} {R2 : RT} {L2 : LT} {G2 : GT} {P : PT} {W : WT} {S : ST} {Cc : CT} {Y : YT} {D : DT} {th : Int32} {wh : Int32} {sz : Int32} {ix : Int32} {so : Int32} {pl : Int32} {nu : Int32} {wd : Int64} {ea : Nat → Int32} {pa : Nat → Int32} {co : Nat → Int32} {V : VT} {ba : Nat → Int32} {sk sp : Int32} {Pm : PT} {Dm : DT} {Sm : ST} {Ccm : CT} {Bm : BT} {Rm : RT} {Lm : LT} {Gm : GT} {f : Nat → Int64}
set_option maxRecDepth 100000
theorem o1_3 (hR : lwR l Ls xs z C) (hL : Ls ≤ 3072) (hi : i + 6 ≤ Ls) (hca : ca ≤ 601024) (hsl : sl ≤ 7293034) (hJ : rJ tl td tr tx rb N wh) (hB : bkR B R L G Bm Rm Lm Gm) (hP : rP B P Pm) (hS : rS S Sm) (hC2 : rC Cc Ccm) (hY : rY Y V) (hD : rD P D Dm) (k : ∀ aw ca' sl', RW aw → ca' ≤ ca + 26 → sl' ≤ sl + 608 → C 23 (LVL (i + 6)) [] aw ca' sl') : C 327 (LVL i) [] ((stripW 0 tl true td tr lf tx rb N B R L G B2 R2 L2 G2 P W S Cc Y D) ++ (oW f ++ sT (modelH (tk 0 5) th tr wh lf tl sz ix so pl nu wd td (-1) (-1) tx Pm Dm ea pa co Sm Ccm V ba Bm Rm Lm Gm sk sp))) ca sl := by
  obtain ⟨hC, hSt, hM, -, -⟩ := hR
  obtain ⟨bA, bN, bI, ⟨t0, bt0, bt8, brX⟩, rA, rO, rI, lA, lU, l24, gA, gO, gG, gI⟩ := id hB
  obtain ⟨⟨n0, pn, pn8, pP⟩, pA, pO, pD⟩ := id hP
  obtain rfl : n0 = t0 := nI_inj (by omega) (by omega) (pn.symm.trans bt0)
  have rE := rEnd_g brX.1
  obtain ⟨u0, u1, u2, u3, -, b1, b2, b3, -, b15, b26, b36, -⟩ := id bI
  have q0 := told_m bA (s := 0) (by decide)
  have q1 := told_m bA (s := 1) (by decide)
  have q3 := told_m bA (s := 3) (by decide)
  have qs := sort_m bA
  have qr := rul_m bA
  have qp := per_m pA
  have qt := trv_m bA pA
  have qd := pdy_m pA
  have qc := con_m hD.1
  have z1 : Pm.2.2.2.2.2.2 = P.2.2.2.2.2.2 := pA.1.symm
  have z2 : Sm.2.2.2.2.2.1 = S.2.2.2.2.2.1 := hS.1.1.symm
  have z3 : Ccm.2.2.2.2.2.2.2 = Cc.2.2.2.2.2.2.2 := hC2.1.1.symm
  have z4 : Rm.2.2.2.2.2.2.2 = R.2.2.2.2.2.2.2 := rA.1.symm
  refine m1_3 hC hL hi ?_
  refine hSt 33 328 1 0 1 _ _ (coL_33 l) dcL_328 (by decide) (by decide) _ _ _ [] [] _ _ rfl rfl rfl ⟨_, rfl⟩ (by decide) ?_
  refine ⟨_, _, _, _, _, _, _, _, _, _, _, _, _, _, _, _, _, _, _, _, _, _, rfl, rfl, ?_⟩
  refine kS hJ.2.2.2.1 ?_
  refine m2_3 hC hL hi ?_
  refine cM hM (coL_37 l) dcL_332 (by decide) (by decide) rfl [] [_] hca hsl rfl rfl (by exact Nat.le_of_ble_eq_true rfl) ?_
  refine ⟨_, _, _, _, _, _, _, _, _, _, _, _, _, _, _, _, _, _, _, _, _, _, _, _, _, _, _, _, rfl, rfl, ?_⟩
  refine kM ?_
  exact m3_3 hC rfl (k _ _ _ (rw1 hJ hB hP hS hC2 hY hD) (Nat.le_add_right _ _) (Nat.le_add_right _ _))
theorem o1_4 (hR : lwR l Ls xs z C) (hL : Ls ≤ 3072) (hi : i + 6 ≤ Ls) (hca : ca ≤ 601024) (hsl : sl ≤ 7293034) (hJ : rJ tl td tr tx rb N wh) (hB : bkR B R L G Bm Rm Lm Gm) (hP : rP B P Pm) (hS : rS S Sm) (hC2 : rC Cc Ccm) (hY : rY Y V) (hD : rD P D Dm) (k : ∀ aw ca' sl', RW aw → ca' ≤ ca + 26 → sl' ≤ sl + 608 → C 23 (LVL (i + 6)) [] aw ca' sl') : C 340 (LVL i) [] ((stripW 0 tl true td tr lf tx rb N B R L G B2 R2 L2 G2 P W S Cc Y D) ++ (oW f ++ sT (modelH (tk 0 5) th tr wh lf tl sz ix so pl nu wd td (-1) (-1) tx Pm Dm ea pa co Sm Ccm V ba Bm Rm Lm Gm sk sp))) ca sl := by
  obtain ⟨hC, hSt, hM, -, -⟩ := hR
  obtain ⟨bA, bN, bI, ⟨t0, bt0, bt8, brX⟩, rA, rO, rI, lA, lU, l24, gA, gO, gG, gI⟩ := id hB
  obtain ⟨⟨n0, pn, pn8, pP⟩, pA, pO, pD⟩ := id hP
  obtain rfl : n0 = t0 := nI_inj (by omega) (by omega) (pn.symm.trans bt0)
  have rE := rEnd_g brX.1
  obtain ⟨u0, u1, u2, u3, -, b1, b2, b3, -, b15, b26, b36, -⟩ := id bI
  have q0 := told_m bA (s := 0) (by decide)
  have q1 := told_m bA (s := 1) (by decide)
  have q3 := told_m bA (s := 3) (by decide)
  have qs := sort_m bA
  have qr := rul_m bA
  have qp := per_m pA
  have qt := trv_m bA pA
  have qd := pdy_m pA
  have qc := con_m hD.1
  have z1 : Pm.2.2.2.2.2.2 = P.2.2.2.2.2.2 := pA.1.symm
  have z2 : Sm.2.2.2.2.2.1 = S.2.2.2.2.2.1 := hS.1.1.symm
  have z3 : Ccm.2.2.2.2.2.2.2 = Cc.2.2.2.2.2.2.2 := hC2.1.1.symm
  have z4 : Rm.2.2.2.2.2.2.2 = R.2.2.2.2.2.2.2 := rA.1.symm
  refine m1_4 hC hL hi ?_
  refine hSt 38 341 1 0 1 _ _ (coL_38 l) dcL_341 (by decide) (by decide) _ _ _ [] [] _ _ rfl rfl rfl ⟨_, rfl⟩ (by decide) ?_
  refine ⟨_, _, _, _, _, _, _, _, _, _, _, _, _, _, _, _, _, _, _, _, _, _, rfl, rfl, ?_⟩
  refine kS hJ.2.2.2.1 ?_
  refine m2_4 hC hL hi ?_
  refine cM hM (coL_41 l) dcL_345 (by decide) (by decide) rfl [] [_] hca hsl rfl rfl (by exact Nat.le_of_ble_eq_true rfl) ?_
  refine ⟨_, _, _, _, _, _, _, _, _, _, _, _, _, _, _, _, _, _, _, _, _, _, _, _, _, _, _, _, rfl, rfl, ?_⟩
  refine kM ?_
  exact m3_4 hC hJ.2.2.1.symm (k _ _ _ (rw1 hJ hB hP hS hC2 hY hD) (Nat.le_add_right _ _) (Nat.le_add_right _ _))
theorem o1_6 (hR : lwR l Ls xs z C) (hL : Ls ≤ 3072) (hi : i + 6 ≤ Ls) (hca : ca ≤ 601024) (hsl : sl ≤ 7293034) (hJ : rJ tl td tr tx rb N wh) (hB : bkR B R L G Bm Rm Lm Gm) (hP : rP B P Pm) (hS : rS S Sm) (hC2 : rC Cc Ccm) (hY : rY Y V) (hD : rD P D Dm) (k : ∀ aw ca' sl', RW aw → ca' ≤ ca + 26 → sl' ≤ sl + 608 → C 23 (LVL (i + 6)) [] aw ca' sl') : C 378 (LVL i) [] ((stripW 0 tl true td tr lf tx rb N B R L G B2 R2 L2 G2 P W S Cc Y D) ++ (oW f ++ sT (modelH (tk 0 5) th tr wh lf tl sz ix so pl nu wd td (-1) (-1) tx Pm Dm ea pa co Sm Ccm V ba Bm Rm Lm Gm sk sp))) ca sl := by
  obtain ⟨hC, hSt, hM, -, -⟩ := hR
  obtain ⟨bA, bN, bI, ⟨t0, bt0, bt8, brX⟩, rA, rO, rI, lA, lU, l24, gA, gO, gG, gI⟩ := id hB
  obtain ⟨⟨n0, pn, pn8, pP⟩, pA, pO, pD⟩ := id hP
  obtain rfl : n0 = t0 := nI_inj (by omega) (by omega) (pn.symm.trans bt0)
  have rE := rEnd_g brX.1
  obtain ⟨u0, u1, u2, u3, -, b1, b2, b3, -, b15, b26, b36, -⟩ := id bI
  have q0 := told_m bA (s := 0) (by decide)
  have q1 := told_m bA (s := 1) (by decide)
  have q3 := told_m bA (s := 3) (by decide)
  have qs := sort_m bA
  have qr := rul_m bA
  have qp := per_m pA
  have qt := trv_m bA pA
  have qd := pdy_m pA
  have qc := con_m hD.1
  have z1 : Pm.2.2.2.2.2.2 = P.2.2.2.2.2.2 := pA.1.symm
  have z2 : Sm.2.2.2.2.2.1 = S.2.2.2.2.2.1 := hS.1.1.symm
  have z3 : Ccm.2.2.2.2.2.2.2 = Cc.2.2.2.2.2.2.2 := hC2.1.1.symm
  have z4 : Rm.2.2.2.2.2.2.2 = R.2.2.2.2.2.2.2 := rA.1.symm
  refine m1_6 hC hL hi ?_
  refine hSt 46 409 6 3 8 _ _ (coL_46 l) dcL_409 (by decide) (by decide) _ _ _ [.int (xs (i + 1)), .int (xs (i + 2)), .int (xs (i + 3)), .int (xs (i + 4)), .int (xs (i + 5))] [] _ _ rfl rfl rfl ⟨_, rfl⟩ (by decide) ?_
  refine ⟨_, _, _, _, _, _, _, _, _, _, _, _, _, _, _, _, _, _, _, _, _, _, _, _, _, _, _, rfl, rfl, l24, ?_⟩
  split
  · next c1 =>
    refine kS hJ.2.2.2.1 ?_
    refine m2_6 hC hL hi ?_
    refine cM hM (coL_49 l) dcL_443 (by decide) (by decide) rfl [.int (xs (i + 1)), .int (xs (i + 2)), .int (xs (i + 3)), .int (xs (i + 4)), .int (xs (i + 5))] [_] hca hsl rfl rfl (by exact Nat.le_of_ble_eq_true rfl) ?_
    refine ⟨_, _, _, _, _, _, _, _, _, _, _, _, _, _, _, _, _, _, _, _, _, _, _, _, _, _, _, _, _, _, _, _, _, rfl, rfl, (l24_m lA l24), ?_⟩
    rw [if_pos (by simpa only [q0, q1, q3, qs, qr, qp, qt, qd, qc, z1, z2, z3, z4, hD.1] using c1)]
    refine kM ?_
    exact m3_6 hC (by rw [saysT_cg lA (fun _ h => ruling_lt h), ruling_cg lA (rul_d c1)]) (k _ _ _ (rw1 (rJ_tr hJ (by decide)) hB hP hS hC2 hY hD) (Nat.le_add_right _ _) (Nat.le_add_right _ _))
  · next c1 =>
    refine kS hJ.2.2.2.1 ?_
    refine m2_6 hC hL hi ?_
    refine cM hM (coL_49 l) dcL_443 (by decide) (by decide) rfl [.int (xs (i + 1)), .int (xs (i + 2)), .int (xs (i + 3)), .int (xs (i + 4)), .int (xs (i + 5))] [_] hca hsl rfl rfl (by exact Nat.le_of_ble_eq_true rfl) ?_
    refine ⟨_, _, _, _, _, _, _, _, _, _, _, _, _, _, _, _, _, _, _, _, _, _, _, _, _, _, _, _, _, _, _, _, _, rfl, rfl, (l24_m lA l24), ?_⟩
    rw [if_neg (by simpa only [q0, q1, q3, qs, qr, qp, qt, qd, qc, z1, z2, z3, z4, hD.1] using c1)]
    rw [qr]
    refine kM ?_
    exact m3_6 hC rfl (k _ _ _ (rw1 (rJ_tr hJ rul_n4) hB hP hS hC2 hY hD) (Nat.le_add_right _ _) (Nat.le_add_right _ _))
theorem o1_7 (hR : lwR l Ls xs z C) (hL : Ls ≤ 3072) (hi : i + 6 ≤ Ls) (hca : ca ≤ 601024) (hsl : sl ≤ 7293034) (hJ : rJ tl td tr tx rb N wh) (hB : bkR B R L G Bm Rm Lm Gm) (hP : rP B P Pm) (hS : rS S Sm) (hC2 : rC Cc Ccm) (hY : rY Y V) (hD : rD P D Dm) (k : ∀ aw ca' sl', RW aw → ca' ≤ ca + 26 → sl' ≤ sl + 608 → C 23 (LVL (i + 6)) [] aw ca' sl') : C 451 (LVL i) [] ((stripW 0 tl true td tr lf tx rb N B R L G B2 R2 L2 G2 P W S Cc Y D) ++ (oW f ++ sT (modelH (tk 0 5) th tr wh lf tl sz ix so pl nu wd td (-1) (-1) tx Pm Dm ea pa co Sm Ccm V ba Bm Rm Lm Gm sk sp))) ca sl := by
  obtain ⟨hC, hSt, hM, -, -⟩ := hR
  obtain ⟨bA, bN, bI, ⟨t0, bt0, bt8, brX⟩, rA, rO, rI, lA, lU, l24, gA, gO, gG, gI⟩ := id hB
  obtain ⟨⟨n0, pn, pn8, pP⟩, pA, pO, pD⟩ := id hP
  obtain rfl : n0 = t0 := nI_inj (by omega) (by omega) (pn.symm.trans bt0)
  have rE := rEnd_g brX.1
  obtain ⟨u0, u1, u2, u3, -, b1, b2, b3, -, b15, b26, b36, -⟩ := id bI
  have q0 := told_m bA (s := 0) (by decide)
  have q1 := told_m bA (s := 1) (by decide)
  have q3 := told_m bA (s := 3) (by decide)
  have qs := sort_m bA
  have qr := rul_m bA
  have qp := per_m pA
  have qt := trv_m bA pA
  have qd := pdy_m pA
  have qc := con_m hD.1
  have z1 : Pm.2.2.2.2.2.2 = P.2.2.2.2.2.2 := pA.1.symm
  have z2 : Sm.2.2.2.2.2.1 = S.2.2.2.2.2.1 := hS.1.1.symm
  have z3 : Ccm.2.2.2.2.2.2.2 = Cc.2.2.2.2.2.2.2 := hC2.1.1.symm
  have z4 : Rm.2.2.2.2.2.2.2 = R.2.2.2.2.2.2.2 := rA.1.symm
  refine m1_7 hC hL hi ?_
  refine hSt 50 482 6 3 8 _ _ (coL_50 l) dcL_482 (by decide) (by decide) _ _ _ [.int (xs (i + 1)), .int (xs (i + 2)), .int (xs (i + 3)), .int (xs (i + 4)), .int (xs (i + 5))] [] _ _ rfl rfl rfl ⟨_, rfl⟩ (by decide) ?_
  refine ⟨_, _, _, _, _, _, _, _, _, _, _, _, _, _, _, _, _, _, _, _, _, _, _, _, _, _, _, rfl, rfl, l24, ?_⟩
  split
  · next c1 =>
    refine kS hJ.2.2.2.1 ?_
    refine m2_7 hC hL hi ?_
    refine cM hM (coL_53 l) dcL_516 (by decide) (by decide) rfl [.int (xs (i + 1)), .int (xs (i + 2)), .int (xs (i + 3)), .int (xs (i + 4)), .int (xs (i + 5))] [_] hca hsl rfl rfl (by exact Nat.le_of_ble_eq_true rfl) ?_
    refine ⟨_, _, _, _, _, _, _, _, _, _, _, _, _, _, _, _, _, _, _, _, _, _, _, _, _, _, _, _, _, _, _, _, _, rfl, rfl, (l24_m lA l24), ?_⟩
    rw [if_pos (by simpa only [q0, q1, q3, qs, qr, qp, qt, qd, qc, z1, z2, z3, z4, hD.1] using c1)]
    refine kM ?_
    exact m3_7 hC (by rw [ruling_cg lA (rul_d c1)]) (k _ _ _ (rw1 (rJ_tr hJ (by decide)) hB hP hS hC2 hY hD) (Nat.le_add_right _ _) (Nat.le_add_right _ _))
  · next c1 =>
    refine kS hJ.2.2.2.1 ?_
    refine m2_7 hC hL hi ?_
    refine cM hM (coL_53 l) dcL_516 (by decide) (by decide) rfl [.int (xs (i + 1)), .int (xs (i + 2)), .int (xs (i + 3)), .int (xs (i + 4)), .int (xs (i + 5))] [_] hca hsl rfl rfl (by exact Nat.le_of_ble_eq_true rfl) ?_
    refine ⟨_, _, _, _, _, _, _, _, _, _, _, _, _, _, _, _, _, _, _, _, _, _, _, _, _, _, _, _, _, _, _, _, _, rfl, rfl, (l24_m lA l24), ?_⟩
    rw [if_neg (by simpa only [q0, q1, q3, qs, qr, qp, qt, qd, qc, z1, z2, z3, z4, hD.1] using c1)]
    rw [qr]
    refine kM ?_
    exact m3_7 hC rfl (k _ _ _ (rw1 (rJ_tr hJ rul_n4) hB hP hS hC2 hY hD) (Nat.le_add_right _ _) (Nat.le_add_right _ _))
theorem o1_10 (hR : lwR l Ls xs z C) (hL : Ls ≤ 3072) (hi : i + 6 ≤ Ls) (hca : ca ≤ 601024) (hsl : sl ≤ 7293034) (hJ : rJ tl td tr tx rb N wh) (hB : bkR B R L G Bm Rm Lm Gm) (hP : rP B P Pm) (hS : rS S Sm) (hC2 : rC Cc Ccm) (hY : rY Y V) (hD : rD P D Dm) (k : ∀ aw ca' sl', RW aw → ca' ≤ ca + 26 → sl' ≤ sl + 608 → C 23 (LVL (i + 6)) [] aw ca' sl') : C 622 (LVL i) [] ((stripW 0 tl true td tr lf tx rb N B R L G B2 R2 L2 G2 P W S Cc Y D) ++ (oW f ++ sT (modelH (tk 0 5) th tr wh lf tl sz ix so pl nu wd td (-1) (-1) tx Pm Dm ea pa co Sm Ccm V ba Bm Rm Lm Gm sk sp))) ca sl := by
  obtain ⟨hC, hSt, hM, -, -⟩ := hR
  obtain ⟨bA, bN, bI, ⟨t0, bt0, bt8, brX⟩, rA, rO, rI, lA, lU, l24, gA, gO, gG, gI⟩ := id hB
  obtain ⟨⟨n0, pn, pn8, pP⟩, pA, pO, pD⟩ := id hP
  obtain rfl : n0 = t0 := nI_inj (by omega) (by omega) (pn.symm.trans bt0)
  have rE := rEnd_g brX.1
  obtain ⟨u0, u1, u2, u3, -, b1, b2, b3, -, b15, b26, b36, -⟩ := id bI
  have q0 := told_m bA (s := 0) (by decide)
  have q1 := told_m bA (s := 1) (by decide)
  have q3 := told_m bA (s := 3) (by decide)
  have qs := sort_m bA
  have qr := rul_m bA
  have qp := per_m pA
  have qt := trv_m bA pA
  have qd := pdy_m pA
  have qc := con_m hD.1
  have z1 : Pm.2.2.2.2.2.2 = P.2.2.2.2.2.2 := pA.1.symm
  have z2 : Sm.2.2.2.2.2.1 = S.2.2.2.2.2.1 := hS.1.1.symm
  have z3 : Ccm.2.2.2.2.2.2.2 = Cc.2.2.2.2.2.2.2 := hC2.1.1.symm
  have z4 : Rm.2.2.2.2.2.2.2 = R.2.2.2.2.2.2.2 := rA.1.symm
  refine m1_10 hC hL hi ?_
  refine hSt 62 641 4 1 5 _ _ (coL_62 l) dcL_641 (by decide) (by decide) _ _ _ [.int (xs (i + 1)), .int (xs (i + 2)), .int (xs (i + 3))] [] _ _ rfl rfl rfl ⟨_, rfl⟩ (by decide) ?_
  refine ⟨_, _, _, _, _, _, _, _, _, _, _, _, _, _, _, _, _, _, _, _, _, _, _, _, _, rfl, rfl, pO, ?_⟩
  split
  · next c1 =>
    refine kS hJ.2.2.2.1 ?_
    refine m2_10 hC hL hi ?_
    refine cM hM (coL_66 l) dcL_663 (by decide) (by decide) rfl [.int (xs (i + 1)), .int (xs (i + 2)), .int (xs (i + 3))] [_] hca hsl rfl rfl (by exact Nat.le_of_ble_eq_true rfl) ?_
    refine ⟨_, _, _, _, _, _, _, _, _, _, _, _, _, _, _, _, _, _, _, _, _, _, _, _, _, _, _, _, _, _, _, rfl, rfl, (pOk_m pA pO), ?_⟩
    rw [if_pos (by rw [Bool.and_eq_true] at c1 ⊢; rw [qp, ← pcN_cg pA (per_lt pO c1.1)]; exact c1)]
    refine kM ?_
    exact m3_10 hC (by rw [Bool.and_eq_true] at c1; exact held_m pA pO c1.1 (of_decide_eq_true c1.2)) (k _ _ _ (rw1 hJ hB hP hS hC2 hY hD) (Nat.le_add_right _ _) (Nat.le_add_right _ _))
  · next c1 =>
    refine kS hJ.2.2.2.1 ?_
    refine m2_10 hC hL hi ?_
    refine cM hM (coL_66 l) dcL_663 (by decide) (by decide) rfl [.int (xs (i + 1)), .int (xs (i + 2)), .int (xs (i + 3))] [_] hca hsl rfl rfl (by exact Nat.le_of_ble_eq_true rfl) ?_
    refine ⟨_, _, _, _, _, _, _, _, _, _, _, _, _, _, _, _, _, _, _, _, _, _, _, _, _, _, _, _, _, _, _, rfl, rfl, (pOk_m pA pO), ?_⟩
    rw [if_neg (by rw [Bool.and_eq_true] at c1 ⊢; rw [qp]; exact fun h => c1 ⟨h.1, by rw [pcN_cg pA (per_lt pO h.1)]; exact h.2⟩)]
    refine kM ?_
    exact m3_10 hC rfl (k _ _ _ (rw1 hJ hB hP hS hC2 hY hD) (Nat.le_add_right _ _) (Nat.le_add_right _ _))
theorem o1_12 (hR : lwR l Ls xs z C) (hL : Ls ≤ 3072) (hi : i + 6 ≤ Ls) (hca : ca ≤ 601024) (hsl : sl ≤ 7293034) (hJ : rJ tl td tr tx rb N wh) (hB : bkR B R L G Bm Rm Lm Gm) (hP : rP B P Pm) (hS : rS S Sm) (hC2 : rC Cc Ccm) (hY : rY Y V) (hD : rD P D Dm) (k : ∀ aw ca' sl', RW aw → ca' ≤ ca + 26 → sl' ≤ sl + 608 → C 23 (LVL (i + 6)) [] aw ca' sl') : C 708 (LVL i) [] ((stripW 0 tl true td tr lf tx rb N B R L G B2 R2 L2 G2 P W S Cc Y D) ++ (oW f ++ sT (modelH (tk 0 5) th tr wh lf tl sz ix so pl nu wd td (-1) (-1) tx Pm Dm ea pa co Sm Ccm V ba Bm Rm Lm Gm sk sp))) ca sl := by
  obtain ⟨hC, hSt, hM, -, -⟩ := hR
  obtain ⟨bA, bN, bI, ⟨t0, bt0, bt8, brX⟩, rA, rO, rI, lA, lU, l24, gA, gO, gG, gI⟩ := id hB
  obtain ⟨⟨n0, pn, pn8, pP⟩, pA, pO, pD⟩ := id hP
  obtain rfl : n0 = t0 := nI_inj (by omega) (by omega) (pn.symm.trans bt0)
  have rE := rEnd_g brX.1
  obtain ⟨u0, u1, u2, u3, -, b1, b2, b3, -, b15, b26, b36, -⟩ := id bI
  have q0 := told_m bA (s := 0) (by decide)
  have q1 := told_m bA (s := 1) (by decide)
  have q3 := told_m bA (s := 3) (by decide)
  have qs := sort_m bA
  have qr := rul_m bA
  have qp := per_m pA
  have qt := trv_m bA pA
  have qd := pdy_m pA
  have qc := con_m hD.1
  have z1 : Pm.2.2.2.2.2.2 = P.2.2.2.2.2.2 := pA.1.symm
  have z2 : Sm.2.2.2.2.2.1 = S.2.2.2.2.2.1 := hS.1.1.symm
  have z3 : Ccm.2.2.2.2.2.2.2 = Cc.2.2.2.2.2.2.2 := hC2.1.1.symm
  have z4 : Rm.2.2.2.2.2.2.2 = R.2.2.2.2.2.2.2 := rA.1.symm
  refine m1_12 hC hL hi ?_
  refine hSt 72 727 4 4 4 _ _ (coL_72 l) dcL_727 (by decide) (by decide) _ _ _ [.int (xs (i + 1)), .int (xs (i + 2)), .int (xs (i + 3))] [] _ _ rfl rfl rfl ⟨_, rfl⟩ (by decide) ?_
  refine ⟨_, _, _, _, _, _, _, _, _, _, _, _, _, _, _, _, _, _, _, _, _, _, u1, _, _, _, rfl, rfl, pO, l24, b1, b15, ?_⟩
  split
  · next c1 =>
    split
    · next c2 =>
      refine kS hJ.2.2.2.1 ?_
      refine m2_12 hC hL hi ?_
      refine cM hM (coL_75 l) dcL_749 (by decide) (by decide) rfl [.int (xs (i + 1)), .int (xs (i + 2)), .int (xs (i + 3))] [_] hca hsl rfl rfl (by exact Nat.le_of_ble_eq_true rfl) ?_
      refine ⟨_, _, _, _, _, _, _, _, _, _, _, _, _, _, _, _, _, _, _, _, _, _, _, _, _, _, _, _, u1, _, _, _, rfl, rfl, (pOk_m pA pO), (l24_m lA l24), ((bA.1 1 (by decide)).symm.trans b1), b15, ?_⟩
      rw [if_pos (by simpa only [q0, q1, q3, qs, qr, qp, qt, qd, qc, z1, z2, z3, z4, hD.1] using c1)]
      rw [if_pos (by simpa only [q0, q1, q3, qs, qr, qp, qt, qd, qc, z1, z2, z3, z4, hD.1] using c2)]
      refine kM ?_
      exact m3_12 hC (by rw [Bool.and_eq_true] at c1; exact landsG_cg pA lA (per_lt pO c1.1) (dayB_9 c2) _) (k _ _ _ (rw1 (rJ_tr hJ (by decide)) hB hP hS hC2 hY hD) (Nat.le_add_right _ _) (Nat.le_add_right _ _))
    · next c2 =>
      refine kS hJ.2.2.2.1 ?_
      refine m2_12 hC hL hi ?_
      refine cM hM (coL_75 l) dcL_749 (by decide) (by decide) rfl [.int (xs (i + 1)), .int (xs (i + 2)), .int (xs (i + 3))] [_] hca hsl rfl rfl (by exact Nat.le_of_ble_eq_true rfl) ?_
      refine ⟨_, _, _, _, _, _, _, _, _, _, _, _, _, _, _, _, _, _, _, _, _, _, _, _, _, _, _, _, u1, _, _, _, rfl, rfl, (pOk_m pA pO), (l24_m lA l24), ((bA.1 1 (by decide)).symm.trans b1), b15, ?_⟩
      rw [if_pos (by simpa only [q0, q1, q3, qs, qr, qp, qt, qd, qc, z1, z2, z3, z4, hD.1] using c1)]
      rw [if_neg (by simpa only [q0, q1, q3, qs, qr, qp, qt, qd, qc, z1, z2, z3, z4, hD.1] using c2)]
      refine kM ?_
      exact m3_12 hC rfl (k _ _ _ (rw1 (rJ_tr hJ (by decide)) hB hP hS hC2 hY hD) (Nat.le_add_right _ _) (Nat.le_add_right _ _))
  · next c1 =>
    refine kS hJ.2.2.2.1 ?_
    refine m2_12 hC hL hi ?_
    refine cM hM (coL_75 l) dcL_749 (by decide) (by decide) rfl [.int (xs (i + 1)), .int (xs (i + 2)), .int (xs (i + 3))] [_] hca hsl rfl rfl (by exact Nat.le_of_ble_eq_true rfl) ?_
    refine ⟨_, _, _, _, _, _, _, _, _, _, _, _, _, _, _, _, _, _, _, _, _, _, _, _, _, _, _, _, u1, _, _, _, rfl, rfl, (pOk_m pA pO), (l24_m lA l24), ((bA.1 1 (by decide)).symm.trans b1), b15, ?_⟩
    rw [if_neg (by simpa only [q0, q1, q3, qs, qr, qp, qt, qd, qc, z1, z2, z3, z4, hD.1] using c1)]
    refine kM ?_
    exact m3_12 hC rfl (k _ _ _ (rw1 (rJ_tr hJ (by decide)) hB hP hS hC2 hY hD) (Nat.le_add_right _ _) (Nat.le_add_right _ _))
theorem o1_13 (hR : lwR l Ls xs z C) (hL : Ls ≤ 3072) (hi : i + 6 ≤ Ls) (hca : ca ≤ 601024) (hsl : sl ≤ 7293034) (hJ : rJ tl td tr tx rb N wh) (hB : bkR B R L G Bm Rm Lm Gm) (hP : rP B P Pm) (hS : rS S Sm) (hC2 : rC Cc Ccm) (hY : rY Y V) (hD : rD P D Dm) (k : ∀ aw ca' sl', RW aw → ca' ≤ ca + 26 → sl' ≤ sl + 608 → C 23 (LVL (i + 6)) [] aw ca' sl') : C 757 (LVL i) [] ((stripW 0 tl true td tr lf tx rb N B R L G B2 R2 L2 G2 P W S Cc Y D) ++ (oW f ++ sT (modelH (tk 0 5) th tr wh lf tl sz ix so pl nu wd td (-1) (-1) tx Pm Dm ea pa co Sm Ccm V ba Bm Rm Lm Gm sk sp))) ca sl := by
  obtain ⟨hC, hSt, hM, -, -⟩ := hR
  obtain ⟨bA, bN, bI, ⟨t0, bt0, bt8, brX⟩, rA, rO, rI, lA, lU, l24, gA, gO, gG, gI⟩ := id hB
  obtain ⟨⟨n0, pn, pn8, pP⟩, pA, pO, pD⟩ := id hP
  obtain rfl : n0 = t0 := nI_inj (by omega) (by omega) (pn.symm.trans bt0)
  have rE := rEnd_g brX.1
  obtain ⟨u0, u1, u2, u3, -, b1, b2, b3, -, b15, b26, b36, -⟩ := id bI
  have q0 := told_m bA (s := 0) (by decide)
  have q1 := told_m bA (s := 1) (by decide)
  have q3 := told_m bA (s := 3) (by decide)
  have qs := sort_m bA
  have qr := rul_m bA
  have qp := per_m pA
  have qt := trv_m bA pA
  have qd := pdy_m pA
  have qc := con_m hD.1
  have z1 : Pm.2.2.2.2.2.2 = P.2.2.2.2.2.2 := pA.1.symm
  have z2 : Sm.2.2.2.2.2.1 = S.2.2.2.2.2.1 := hS.1.1.symm
  have z3 : Ccm.2.2.2.2.2.2.2 = Cc.2.2.2.2.2.2.2 := hC2.1.1.symm
  have z4 : Rm.2.2.2.2.2.2.2 = R.2.2.2.2.2.2.2 := rA.1.symm
  refine m1_13 hC hL hi ?_
  refine hSt 76 770 3 4 5 _ _ (coL_76 l) dcL_770 (by decide) (by decide) _ _ _ [.int (xs (i + 1)), .int (xs (i + 2))] [] _ _ rfl rfl rfl ⟨_, rfl⟩ (by decide) ?_
  refine ⟨_, _, _, _, _, _, _, _, _, _, _, _, _, _, _, _, _, _, _, _, _, _, u1, _, _, rfl, rfl, pO, l24, b1, b15, ?_⟩
  split
  · next c1 =>
    split
    · next c2 =>
      refine kS hJ.2.2.2.1 ?_
      refine m2_13 hC hL hi ?_
      refine cM hM (coL_80 l) dcL_786 (by decide) (by decide) rfl [.int (xs (i + 1)), .int (xs (i + 2))] [_] hca hsl rfl rfl (by exact Nat.le_of_ble_eq_true rfl) ?_
      refine ⟨_, _, _, _, _, _, _, _, _, _, _, _, _, _, _, _, _, _, _, _, _, _, _, _, _, _, _, _, u1, _, _, rfl, rfl, (pOk_m pA pO), (l24_m lA l24), ((bA.1 1 (by decide)).symm.trans b1), b15, ?_⟩
      rw [if_pos (by simpa only [q0, q1, q3, qs, qr, qp, qt, qd, qc, z1, z2, z3, z4, hD.1] using c1)]
      rw [if_pos (by simpa only [q0, q1, q3, qs, qr, qp, qt, qd, qc, z1, z2, z3, z4, hD.1] using c2)]
      refine kM ?_
      exact m3_13 hC (by rw [z1, nwF_cg pA lA (dayB_9 c2) _ _ (Nat.le_refl _)]) (k _ _ _ (rw1 (rJ_tr hJ (by decide)) hB hP hS hC2 hY hD) (Nat.le_add_right _ _) (Nat.le_add_right _ _))
    · next c2 =>
      refine kS hJ.2.2.2.1 ?_
      refine m2_13 hC hL hi ?_
      refine cM hM (coL_80 l) dcL_786 (by decide) (by decide) rfl [.int (xs (i + 1)), .int (xs (i + 2))] [_] hca hsl rfl rfl (by exact Nat.le_of_ble_eq_true rfl) ?_
      refine ⟨_, _, _, _, _, _, _, _, _, _, _, _, _, _, _, _, _, _, _, _, _, _, _, _, _, _, _, _, u1, _, _, rfl, rfl, (pOk_m pA pO), (l24_m lA l24), ((bA.1 1 (by decide)).symm.trans b1), b15, ?_⟩
      rw [if_pos (by simpa only [q0, q1, q3, qs, qr, qp, qt, qd, qc, z1, z2, z3, z4, hD.1] using c1)]
      rw [if_neg (by simpa only [q0, q1, q3, qs, qr, qp, qt, qd, qc, z1, z2, z3, z4, hD.1] using c2)]
      refine kM ?_
      exact m3_13 hC rfl (k _ _ _ (rw1 (rJ_tr hJ (by decide)) hB hP hS hC2 hY hD) (Nat.le_add_right _ _) (Nat.le_add_right _ _))
  · next c1 =>
    refine kS hJ.2.2.2.1 ?_
    refine m2_13 hC hL hi ?_
    refine cM hM (coL_80 l) dcL_786 (by decide) (by decide) rfl [.int (xs (i + 1)), .int (xs (i + 2))] [_] hca hsl rfl rfl (by exact Nat.le_of_ble_eq_true rfl) ?_
    refine ⟨_, _, _, _, _, _, _, _, _, _, _, _, _, _, _, _, _, _, _, _, _, _, _, _, _, _, _, _, u1, _, _, rfl, rfl, (pOk_m pA pO), (l24_m lA l24), ((bA.1 1 (by decide)).symm.trans b1), b15, ?_⟩
    rw [if_neg (by simpa only [q0, q1, q3, qs, qr, qp, qt, qd, qc, z1, z2, z3, z4, hD.1] using c1)]
    refine kM ?_
    exact m3_13 hC rfl (k _ _ _ (rw1 (rJ_tr hJ (by decide)) hB hP hS hC2 hY hD) (Nat.le_add_right _ _) (Nat.le_add_right _ _))
theorem o1_21 (hR : lwR l Ls xs z C) (hL : Ls ≤ 3072) (hi : i + 6 ≤ Ls) (hca : ca ≤ 601024) (hsl : sl ≤ 7293034) (hJ : rJ tl td tr tx rb N wh) (hB : bkR B R L G Bm Rm Lm Gm) (hP : rP B P Pm) (hS : rS S Sm) (hC2 : rC Cc Ccm) (hY : rY Y V) (hD : rD P D Dm) (k : ∀ aw ca' sl', RW aw → ca' ≤ ca + 26 → sl' ≤ sl + 608 → C 23 (LVL (i + 6)) [] aw ca' sl') : C 1113 (LVL i) [] ((stripW 0 tl true td tr lf tx rb N B R L G B2 R2 L2 G2 P W S Cc Y D) ++ (oW f ++ sT (modelH (tk 0 5) th tr wh lf tl sz ix so pl nu wd td (-1) (-1) tx Pm Dm ea pa co Sm Ccm V ba Bm Rm Lm Gm sk sp))) ca sl := by
  obtain ⟨hC, hSt, hM, -, -⟩ := hR
  obtain ⟨bA, bN, bI, ⟨t0, bt0, bt8, brX⟩, rA, rO, rI, lA, lU, l24, gA, gO, gG, gI⟩ := id hB
  obtain ⟨⟨n0, pn, pn8, pP⟩, pA, pO, pD⟩ := id hP
  obtain rfl : n0 = t0 := nI_inj (by omega) (by omega) (pn.symm.trans bt0)
  have rE := rEnd_g brX.1
  obtain ⟨u0, u1, u2, u3, -, b1, b2, b3, -, b15, b26, b36, -⟩ := id bI
  have q0 := told_m bA (s := 0) (by decide)
  have q1 := told_m bA (s := 1) (by decide)
  have q3 := told_m bA (s := 3) (by decide)
  have qs := sort_m bA
  have qr := rul_m bA
  have qp := per_m pA
  have qt := trv_m bA pA
  have qd := pdy_m pA
  have qc := con_m hD.1
  have z1 : Pm.2.2.2.2.2.2 = P.2.2.2.2.2.2 := pA.1.symm
  have z2 : Sm.2.2.2.2.2.1 = S.2.2.2.2.2.1 := hS.1.1.symm
  have z3 : Ccm.2.2.2.2.2.2.2 = Cc.2.2.2.2.2.2.2 := hC2.1.1.symm
  have z4 : Rm.2.2.2.2.2.2.2 = R.2.2.2.2.2.2.2 := rA.1.symm
  refine m1_21 hC hL hi ?_
  refine hSt 109 1114 1 0 1 _ _ (coL_109 l) dcL_1114 (by decide) (by decide) _ _ _ [] [] _ _ rfl rfl rfl ⟨_, rfl⟩ (by decide) ?_
  refine ⟨_, _, _, _, _, _, _, _, _, _, _, _, _, _, _, _, _, _, _, _, _, _, rfl, rfl, ?_⟩
  refine kS hJ.2.2.2.1 ?_
  refine m2_21 hC hL hi ?_
  refine cM hM (coL_112 l) dcL_1118 (by decide) (by decide) rfl [] [_] hca hsl rfl rfl (by exact Nat.le_of_ble_eq_true rfl) ?_
  refine ⟨_, _, _, _, _, _, _, _, _, _, _, _, _, _, _, _, _, _, _, _, _, _, _, _, _, _, _, _, rfl, rfl, ?_⟩
  refine kM ?_
  exact m3_21 hC hS.1.2.1 (k _ _ _ (rw1 hJ hB hP hS hC2 hY hD) (Nat.le_add_right _ _) (Nat.le_add_right _ _))
theorem o1_24 (hR : lwR l Ls xs z C) (hL : Ls ≤ 3072) (hi : i + 6 ≤ Ls) (hca : ca ≤ 601024) (hsl : sl ≤ 7293034) (hJ : rJ tl td tr tx rb N wh) (hB : bkR B R L G Bm Rm Lm Gm) (hP : rP B P Pm) (hS : rS S Sm) (hC2 : rC Cc Ccm) (hY : rY Y V) (hD : rD P D Dm) (k : ∀ aw ca' sl', RW aw → ca' ≤ ca + 26 → sl' ≤ sl + 608 → C 23 (LVL (i + 6)) [] aw ca' sl') : C 1224 (LVL i) [] ((stripW 0 tl true td tr lf tx rb N B R L G B2 R2 L2 G2 P W S Cc Y D) ++ (oW f ++ sT (modelH (tk 0 5) th tr wh lf tl sz ix so pl nu wd td (-1) (-1) tx Pm Dm ea pa co Sm Ccm V ba Bm Rm Lm Gm sk sp))) ca sl := by
  obtain ⟨hC, hSt, hM, -, -⟩ := hR
  obtain ⟨bA, bN, bI, ⟨t0, bt0, bt8, brX⟩, rA, rO, rI, lA, lU, l24, gA, gO, gG, gI⟩ := id hB
  obtain ⟨⟨n0, pn, pn8, pP⟩, pA, pO, pD⟩ := id hP
  obtain rfl : n0 = t0 := nI_inj (by omega) (by omega) (pn.symm.trans bt0)
  have rE := rEnd_g brX.1
  obtain ⟨u0, u1, u2, u3, -, b1, b2, b3, -, b15, b26, b36, -⟩ := id bI
  have q0 := told_m bA (s := 0) (by decide)
  have q1 := told_m bA (s := 1) (by decide)
  have q3 := told_m bA (s := 3) (by decide)
  have qs := sort_m bA
  have qr := rul_m bA
  have qp := per_m pA
  have qt := trv_m bA pA
  have qd := pdy_m pA
  have qc := con_m hD.1
  have z1 : Pm.2.2.2.2.2.2 = P.2.2.2.2.2.2 := pA.1.symm
  have z2 : Sm.2.2.2.2.2.1 = S.2.2.2.2.2.1 := hS.1.1.symm
  have z3 : Ccm.2.2.2.2.2.2.2 = Cc.2.2.2.2.2.2.2 := hC2.1.1.symm
  have z4 : Rm.2.2.2.2.2.2.2 = R.2.2.2.2.2.2.2 := rA.1.symm
  refine m1_24 hC hL hi ?_
  refine hSt 121 1249 5 3 5 _ _ (coL_121 l) dcL_1249 (by decide) (by decide) _ _ _ [.int (xs (i + 1)), .int (xs (i + 2)), .int (xs (i + 3)), .int (xs (i + 4))] [] _ _ rfl rfl rfl ⟨_, rfl⟩ (by decide) ?_
  refine ⟨_, _, _, _, _, _, _, _, _, _, _, _, _, _, _, _, _, _, _, _, _, _, _, _, _, _, rfl, rfl, hC2.2, l24, ?_⟩
  split
  · next c1 =>
    split
    · next c2 =>
      refine kS hJ.2.2.2.1 ?_
      refine m2_24 hC hL hi ?_
      refine cM hM (coL_124 l) dcL_1277 (by decide) (by decide) rfl [.int (xs (i + 1)), .int (xs (i + 2)), .int (xs (i + 3)), .int (xs (i + 4))] [_] hca hsl rfl rfl (by exact Nat.le_of_ble_eq_true rfl) ?_
      refine ⟨_, _, _, _, _, _, _, _, _, _, _, _, _, _, _, _, _, _, _, _, _, _, _, _, _, _, _, _, _, _, _, _, rfl, rfl, (by rw [← hC2.1.1]; exact hC2.2), (l24_m lA l24), ?_⟩
      rw [if_pos (by simpa only [q0, q1, q3, qs, qr, qp, qt, qd, qc, z1, z2, z3, z4, hD.1] using c1)]
      rw [if_pos (by simpa only [q0, q1, q3, qs, qr, qp, qt, qd, qc, z1, z2, z3, z4, hD.1] using c2)]
      refine kM ?_
      exact m3_24 hC (by rw [Bool.and_eq_true] at c2; exact bndV_cg hC2.1 lA (dayB_9 c2.2)) (k _ _ _ (rw1 (rJ_tr hJ (by decide)) hB hP hS hC2 hY hD) (Nat.le_add_right _ _) (Nat.le_add_right _ _))
    · next c2 =>
      refine kS hJ.2.2.2.1 ?_
      refine m2_24 hC hL hi ?_
      refine cM hM (coL_124 l) dcL_1277 (by decide) (by decide) rfl [.int (xs (i + 1)), .int (xs (i + 2)), .int (xs (i + 3)), .int (xs (i + 4))] [_] hca hsl rfl rfl (by exact Nat.le_of_ble_eq_true rfl) ?_
      refine ⟨_, _, _, _, _, _, _, _, _, _, _, _, _, _, _, _, _, _, _, _, _, _, _, _, _, _, _, _, _, _, _, _, rfl, rfl, (by rw [← hC2.1.1]; exact hC2.2), (l24_m lA l24), ?_⟩
      rw [if_pos (by simpa only [q0, q1, q3, qs, qr, qp, qt, qd, qc, z1, z2, z3, z4, hD.1] using c1)]
      rw [if_neg (by simpa only [q0, q1, q3, qs, qr, qp, qt, qd, qc, z1, z2, z3, z4, hD.1] using c2)]
      refine kM ?_
      exact m3_24 hC rfl (k _ _ _ (rw1 (rJ_tr hJ (by decide)) hB hP hS hC2 hY hD) (Nat.le_add_right _ _) (Nat.le_add_right _ _))
  · next c1 =>
    refine kS hJ.2.2.2.1 ?_
    refine m2_24 hC hL hi ?_
    refine cM hM (coL_124 l) dcL_1277 (by decide) (by decide) rfl [.int (xs (i + 1)), .int (xs (i + 2)), .int (xs (i + 3)), .int (xs (i + 4))] [_] hca hsl rfl rfl (by exact Nat.le_of_ble_eq_true rfl) ?_
    refine ⟨_, _, _, _, _, _, _, _, _, _, _, _, _, _, _, _, _, _, _, _, _, _, _, _, _, _, _, _, _, _, _, _, rfl, rfl, (by rw [← hC2.1.1]; exact hC2.2), (l24_m lA l24), ?_⟩
    rw [if_neg (by simpa only [q0, q1, q3, qs, qr, qp, qt, qd, qc, z1, z2, z3, z4, hD.1] using c1)]
    refine kM ?_
    exact m3_24 hC rfl (k _ _ _ (rw1 (rJ_tr hJ (by decide)) hB hP hS hC2 hY hD) (Nat.le_add_right _ _) (Nat.le_add_right _ _))
theorem o1_25 (hR : lwR l Ls xs z C) (hL : Ls ≤ 3072) (hi : i + 6 ≤ Ls) (hca : ca ≤ 601024) (hsl : sl ≤ 7293034) (hJ : rJ tl td tr tx rb N wh) (hB : bkR B R L G Bm Rm Lm Gm) (hP : rP B P Pm) (hS : rS S Sm) (hC2 : rC Cc Ccm) (hY : rY Y V) (hD : rD P D Dm) (k : ∀ aw ca' sl', RW aw → ca' ≤ ca + 26 → sl' ≤ sl + 608 → C 23 (LVL (i + 6)) [] aw ca' sl') : C 1285 (LVL i) [] ((stripW 0 tl true td tr lf tx rb N B R L G B2 R2 L2 G2 P W S Cc Y D) ++ (oW f ++ sT (modelH (tk 0 5) th tr wh lf tl sz ix so pl nu wd td (-1) (-1) tx Pm Dm ea pa co Sm Ccm V ba Bm Rm Lm Gm sk sp))) ca sl := by
  obtain ⟨hC, hSt, hM, -, -⟩ := hR
  obtain ⟨bA, bN, bI, ⟨t0, bt0, bt8, brX⟩, rA, rO, rI, lA, lU, l24, gA, gO, gG, gI⟩ := id hB
  obtain ⟨⟨n0, pn, pn8, pP⟩, pA, pO, pD⟩ := id hP
  obtain rfl : n0 = t0 := nI_inj (by omega) (by omega) (pn.symm.trans bt0)
  have rE := rEnd_g brX.1
  obtain ⟨u0, u1, u2, u3, -, b1, b2, b3, -, b15, b26, b36, -⟩ := id bI
  have q0 := told_m bA (s := 0) (by decide)
  have q1 := told_m bA (s := 1) (by decide)
  have q3 := told_m bA (s := 3) (by decide)
  have qs := sort_m bA
  have qr := rul_m bA
  have qp := per_m pA
  have qt := trv_m bA pA
  have qd := pdy_m pA
  have qc := con_m hD.1
  have z1 : Pm.2.2.2.2.2.2 = P.2.2.2.2.2.2 := pA.1.symm
  have z2 : Sm.2.2.2.2.2.1 = S.2.2.2.2.2.1 := hS.1.1.symm
  have z3 : Ccm.2.2.2.2.2.2.2 = Cc.2.2.2.2.2.2.2 := hC2.1.1.symm
  have z4 : Rm.2.2.2.2.2.2.2 = R.2.2.2.2.2.2.2 := rA.1.symm
  refine m1_25 hC hL hi ?_
  refine hSt 125 1304 4 4 4 _ _ (coL_125 l) dcL_1304 (by decide) (by decide) _ _ _ [.int (xs (i + 1)), .int (xs (i + 2)), .int (xs (i + 3))] [] _ _ rfl rfl rfl ⟨_, rfl⟩ (by decide) ?_
  refine ⟨_, _, _, _, _, _, _, _, _, _, _, _, _, _, _, _, _, _, _, _, _, _, u1, _, _, _, rfl, rfl, hC2.2, l24, b1, b15, ?_⟩
  split
  · next c1 =>
    split
    · next c2 =>
      intro g
      refine kS hJ.2.2.2.1 ?_
      refine m2_25 hC hL hi ?_
      refine cM hM (coL_128 l) dcL_1326 (by decide) (by decide) rfl [.int (xs (i + 1)), .int (xs (i + 2)), .int (xs (i + 3))] [_] hca hsl rfl rfl (by exact Nat.le_of_ble_eq_true rfl) ?_
      refine ⟨_, _, _, _, _, _, _, _, _, _, _, _, _, _, _, _, _, _, _, _, _, _, _, _, _, _, _, _, u1, _, _, _, rfl, rfl, (by rw [← hC2.1.1]; exact hC2.2), (l24_m lA l24), ((bA.1 1 (by decide)).symm.trans b1), b15, ?_⟩
      rw [if_pos (by simpa only [q0, q1, q3, qs, qr, qp, qt, qd, qc, z1, z2, z3, z4, hD.1] using c1)]
      rw [if_pos (by simpa only [q0, q1, q3, qs, qr, qp, qt, qd, qc, z1, z2, z3, z4, hD.1] using c2)]
      refine kM ?_
      exact m3_25 hC (by rw [Bool.and_eq_true] at c2; rw [unl_m _ (fun j _ => bndV_cg hC2.1 lA (dayB_9 c2.2))]) (k _ _ _ (rw1 (rJ_tr hJ (by decide)) hB hP hS hC2 hY hD) (Nat.le_add_right _ _) (Nat.le_add_right _ _))
    · next c2 =>
      refine kS hJ.2.2.2.1 ?_
      refine m2_25 hC hL hi ?_
      refine cM hM (coL_128 l) dcL_1326 (by decide) (by decide) rfl [.int (xs (i + 1)), .int (xs (i + 2)), .int (xs (i + 3))] [_] hca hsl rfl rfl (by exact Nat.le_of_ble_eq_true rfl) ?_
      refine ⟨_, _, _, _, _, _, _, _, _, _, _, _, _, _, _, _, _, _, _, _, _, _, _, _, _, _, _, _, u1, _, _, _, rfl, rfl, (by rw [← hC2.1.1]; exact hC2.2), (l24_m lA l24), ((bA.1 1 (by decide)).symm.trans b1), b15, ?_⟩
      rw [if_pos (by simpa only [q0, q1, q3, qs, qr, qp, qt, qd, qc, z1, z2, z3, z4, hD.1] using c1)]
      rw [if_neg (by simpa only [q0, q1, q3, qs, qr, qp, qt, qd, qc, z1, z2, z3, z4, hD.1] using c2)]
      refine kM ?_
      exact m3_25 hC rfl (k _ _ _ (rw1 (rJ_tr hJ (by decide)) hB hP hS hC2 hY hD) (Nat.le_add_right _ _) (Nat.le_add_right _ _))
  · next c1 =>
    refine kS hJ.2.2.2.1 ?_
    refine m2_25 hC hL hi ?_
    refine cM hM (coL_128 l) dcL_1326 (by decide) (by decide) rfl [.int (xs (i + 1)), .int (xs (i + 2)), .int (xs (i + 3))] [_] hca hsl rfl rfl (by exact Nat.le_of_ble_eq_true rfl) ?_
    refine ⟨_, _, _, _, _, _, _, _, _, _, _, _, _, _, _, _, _, _, _, _, _, _, _, _, _, _, _, _, u1, _, _, _, rfl, rfl, (by rw [← hC2.1.1]; exact hC2.2), (l24_m lA l24), ((bA.1 1 (by decide)).symm.trans b1), b15, ?_⟩
    rw [if_neg (by simpa only [q0, q1, q3, qs, qr, qp, qt, qd, qc, z1, z2, z3, z4, hD.1] using c1)]
    refine kM ?_
    exact m3_25 hC rfl (k _ _ _ (rw1 (rJ_tr hJ (by decide)) hB hP hS hC2 hY hD) (Nat.le_add_right _ _) (Nat.le_add_right _ _))
theorem o1_36 (hR : lwR l Ls xs z C) (hL : Ls ≤ 3072) (hi : i + 6 ≤ Ls) (hca : ca ≤ 601024) (hsl : sl ≤ 7293034) (hJ : rJ tl td tr tx rb N wh) (hB : bkR B R L G Bm Rm Lm Gm) (hP : rP B P Pm) (hS : rS S Sm) (hC2 : rC Cc Ccm) (hY : rY Y V) (hD : rD P D Dm) (k : ∀ aw ca' sl', RW aw → ca' ≤ ca + 26 → sl' ≤ sl + 608 → C 23 (LVL (i + 6)) [] aw ca' sl') : C 1701 (LVL i) [] ((stripW 0 tl true td tr lf tx rb N B R L G B2 R2 L2 G2 P W S Cc Y D) ++ (oW f ++ sT (modelH (tk 0 5) th tr wh lf tl sz ix so pl nu wd td (-1) (-1) tx Pm Dm ea pa co Sm Ccm V ba Bm Rm Lm Gm sk sp))) ca sl := by
  obtain ⟨hC, hSt, hM, -, -⟩ := hR
  obtain ⟨bA, bN, bI, ⟨t0, bt0, bt8, brX⟩, rA, rO, rI, lA, lU, l24, gA, gO, gG, gI⟩ := id hB
  obtain ⟨⟨n0, pn, pn8, pP⟩, pA, pO, pD⟩ := id hP
  obtain rfl : n0 = t0 := nI_inj (by omega) (by omega) (pn.symm.trans bt0)
  have rE := rEnd_g brX.1
  obtain ⟨u0, u1, u2, u3, -, b1, b2, b3, -, b15, b26, b36, -⟩ := id bI
  have q0 := told_m bA (s := 0) (by decide)
  have q1 := told_m bA (s := 1) (by decide)
  have q3 := told_m bA (s := 3) (by decide)
  have qs := sort_m bA
  have qr := rul_m bA
  have qp := per_m pA
  have qt := trv_m bA pA
  have qd := pdy_m pA
  have qc := con_m hD.1
  have z1 : Pm.2.2.2.2.2.2 = P.2.2.2.2.2.2 := pA.1.symm
  have z2 : Sm.2.2.2.2.2.1 = S.2.2.2.2.2.1 := hS.1.1.symm
  have z3 : Ccm.2.2.2.2.2.2.2 = Cc.2.2.2.2.2.2.2 := hC2.1.1.symm
  have z4 : Rm.2.2.2.2.2.2.2 = R.2.2.2.2.2.2.2 := rA.1.symm
  refine m1_36 hC hL hi ?_
  refine hSt 176 1702 1 0 1 _ _ (coL_176 l) dcL_1702 (by decide) (by decide) _ _ _ [] [] _ _ rfl rfl rfl ⟨_, rfl⟩ (by decide) ?_
  refine ⟨_, _, _, _, _, _, _, _, _, _, _, _, _, _, _, _, _, _, _, _, _, _, rfl, rfl, ?_⟩
  refine kS hJ.2.2.2.1 ?_
  refine m2_36 hC hL hi ?_
  refine cM hM (coL_179 l) dcL_1706 (by decide) (by decide) rfl [] [_] hca hsl rfl rfl (by exact Nat.le_of_ble_eq_true rfl) ?_
  refine ⟨_, _, _, _, _, _, _, _, _, _, _, _, _, _, _, _, _, _, _, _, _, _, _, _, _, _, _, _, rfl, rfl, ?_⟩
  refine kM ?_
  exact m3_36 hC rfl (k _ _ _ (rw1 hJ hB hP hS hC2 hY hD) (Nat.le_add_right _ _) (Nat.le_add_right _ _))
end O1

