section O1
variable {l : Launch} {Ls i ca sl : Nat} {xs : Nat → Int32} {z : q_K} {C : q_N} {tl : Nat} {td : Int32} {tr : Int32} {lf : Int32} {tx : Nat → Int32} {rb : Value} {N : NT} {B : BT} {R : RT} {L : LT} {G : GT} {B2 : BT} {R2 : RT} {L2 : LT} {G2 : GT} {P : PT} {W : WT} {S : ST} {Cc : CT} {Y : YT} {D : DT} {th : Int32} {wh : Int32} {sz : Int32} {ix : Int32} {so : Int32} {pl : Int32} {nu : Int32} {wd : Int64} {ea : Nat → Int32} {pa : Nat → Int32} {co : Nat → Int32} {V : VT} {ba : Nat → Int32} {sk sp : Int32} {Pm : PT} {Dm : DT} {Sm : ST} {Ccm : CT} {Bm : BT} {Rm : RT} {Lm : LT} {Gm : GT} {f : Nat → Int64}
set_option maxRecDepth 100000
theorem o1_15 (hR : lwR l Ls xs z C) (hL : Ls ≤ 3072) (hi : i + 6 ≤ Ls) (hca : ca ≤ 601024) (hsl : sl ≤ 7293034) (hJ : rJ tl td tr tx rb N wh) (hB : bkR B R L G Bm Rm Lm Gm) (hP : rP B P Pm) (hS : rS S Sm) (hC2 : rC Cc Ccm) (hY : rY Y V) (hD : rD P D Dm) (k : ∀ aw ca' sl', RW aw → ca' ≤ ca + 26 → sl' ≤ sl + 608 → C 23 (LVL (i + 6)) [] aw ca' sl') : C 843 (LVL i) [] ((stripW 0 tl true td tr lf tx rb N B R L G B2 R2 L2 G2 P W S Cc Y D) ++ (oW f ++ sT (modelH (tk 0 5) th tr wh lf tl sz ix so pl nu wd td (-1) (-1) tx Pm Dm ea pa co Sm Ccm V ba Bm Rm Lm Gm sk sp))) ca sl := by
  obtain ⟨hC, hSt, hM, -, -⟩ := hR
  obtain ⟨bA, bN, bI, ⟨t0, bt0, bt8, brX⟩, rA, rO, rI, lA, lU, l24, gA, gO, gG, gI⟩ := id hB
  obtain ⟨⟨n0, pn, pn8, pP⟩, pA, pO, pD⟩ := id hP
  obtain rfl : n0 = t0 := nI_inj (by omega) (by omega) (pn.symm.trans bt0)
  have rE := rEnd_g brX.1
  obtain ⟨u0, u1, u2, u3, -, b1, b2, b3, -, b15, b26, b36, -⟩ := id bI
  have q0 := told_m bA (s := 0) (by decide)
  have q1 := told_m bA (s := 1) (by decide)
  have q3 := told_m bA (s := 3) (by decide)
  have qs := sort_m bA
  have qr := rul_m bA
  have qp := per_m pA
  have qt := trv_m bA pA
  have qd := pdy_m pA
  have qc := con_m hD.1
  have z1 : Pm.2.2.2.2.2.2 = P.2.2.2.2.2.2 := pA.1.symm
  have z2 : Sm.2.2.2.2.2.1 = S.2.2.2.2.2.1 := hS.1.1.symm
  have z3 : Ccm.2.2.2.2.2.2.2 = Cc.2.2.2.2.2.2.2 := hC2.1.1.symm
  have z4 : Rm.2.2.2.2.2.2.2 = R.2.2.2.2.2.2.2 := rA.1.symm
  refine m1_15 hC hL hi ?_
  refine hSt 85 862 4 6 5 _ _ (coL_85 l) dcL_862 (by decide) (by decide) _ _ _ [.int (xs (i + 1)), .int (xs (i + 2)), .int (xs (i + 3))] [] _ _ rfl rfl rfl ⟨_, rfl⟩ (by decide) ?_
  refine ⟨_, _, _, _, _, _, _, _, _, _, _, _, _, _, _, _, _, _, _, _, _, _, n0, _, _, _, rfl, rfl, pO, pP, rO, rE, l24, pn, pn8, ?_⟩
  split
  · next c1 =>
    split
    · next c2 =>
      refine kS hJ.2.2.2.1 ?_
      refine m2_15 hC hL hi ?_
      refine cM hM (coL_88 l) dcL_884 (by decide) (by decide) rfl [.int (xs (i + 1)), .int (xs (i + 2)), .int (xs (i + 3))] [_] hca hsl rfl rfl (by exact Nat.le_of_ble_eq_true rfl) ?_
      refine ⟨_, _, _, _, _, _, _, _, _, _, _, _, _, _, _, _, _, _, _, _, _, _, _, _, _, _, _, _, n0, _, _, _, rfl, rfl, (pOk_m pA pO), (pPl_m pA pP), (rOk_m rA rO), (rEnd_m rA rE), (l24_m lA l24), ((bA.1 0 (by decide)).symm.trans pn), pn8, ?_⟩
      rw [if_pos (by simpa only [q0, q1, q3, qs, qr, qp, qt, qd, qc, z1, z2, z3, z4, hD.1] using c1)]
      rw [if_pos (by rw [← (first_m pA lA rA lU brX rO pO pP pn pn8 c1 _ _ _)]; exact c2)]
      refine kM ?_
      exact m3_15 hC rfl (k _ _ _ (rw1 (rJ_tr hJ (by decide)) hB hP hS hC2 hY hD) (Nat.le_add_right _ _) (Nat.le_add_right _ _))
    · next c2 =>
      refine kS hJ.2.2.2.1 ?_
      refine m2_15 hC hL hi ?_
      refine cM hM (coL_88 l) dcL_884 (by decide) (by decide) rfl [.int (xs (i + 1)), .int (xs (i + 2)), .int (xs (i + 3))] [_] hca hsl rfl rfl (by exact Nat.le_of_ble_eq_true rfl) ?_
      refine ⟨_, _, _, _, _, _, _, _, _, _, _, _, _, _, _, _, _, _, _, _, _, _, _, _, _, _, _, _, n0, _, _, _, rfl, rfl, (pOk_m pA pO), (pPl_m pA pP), (rOk_m rA rO), (rEnd_m rA rE), (l24_m lA l24), ((bA.1 0 (by decide)).symm.trans pn), pn8, ?_⟩
      rw [if_pos (by simpa only [q0, q1, q3, qs, qr, qp, qt, qd, qc, z1, z2, z3, z4, hD.1] using c1)]
      rw [if_neg (by rw [← (first_m pA lA rA lU brX rO pO pP pn pn8 c1 _ _ _)]; exact c2)]
      refine kM ?_
      exact m3_15 hC (first_m pA lA rA lU brX rO pO pP pn pn8 c1 _ _ _) (k _ _ _ (rw1 (rJ_tr hJ (by decide)) hB hP hS hC2 hY hD) (Nat.le_add_right _ _) (Nat.le_add_right _ _))
  · next c1 =>
    refine kS hJ.2.2.2.1 ?_
    refine m2_15 hC hL hi ?_
    refine cM hM (coL_88 l) dcL_884 (by decide) (by decide) rfl [.int (xs (i + 1)), .int (xs (i + 2)), .int (xs (i + 3))] [_] hca hsl rfl rfl (by exact Nat.le_of_ble_eq_true rfl) ?_
    refine ⟨_, _, _, _, _, _, _, _, _, _, _, _, _, _, _, _, _, _, _, _, _, _, _, _, _, _, _, _, n0, _, _, _, rfl, rfl, (pOk_m pA pO), (pPl_m pA pP), (rOk_m rA rO), (rEnd_m rA rE), (l24_m lA l24), ((bA.1 0 (by decide)).symm.trans pn), pn8, ?_⟩
    rw [if_neg (by simpa only [q0, q1, q3, qs, qr, qp, qt, qd, qc, z1, z2, z3, z4, hD.1] using c1)]
    rw [qt]
    refine kM ?_
    exact m3_15 hC rfl (k _ _ _ (rw1 (rJ_tr hJ trv_n4) hB hP hS hC2 hY hD) (Nat.le_add_right _ _) (Nat.le_add_right _ _))
theorem o1_16 (hR : lwR l Ls xs z C) (hL : Ls ≤ 3072) (hi : i + 6 ≤ Ls) (hca : ca ≤ 601024) (hsl : sl ≤ 7293034) (hJ : rJ tl td tr tx rb N wh) (hB : bkR B R L G Bm Rm Lm Gm) (hP : rP B P Pm) (hS : rS S Sm) (hC2 : rC Cc Ccm) (hY : rY Y V) (hD : rD P D Dm) (k : ∀ aw ca' sl', RW aw → ca' ≤ ca + 26 → sl' ≤ sl + 608 → C 23 (LVL (i + 6)) [] aw ca' sl') : C 892 (LVL i) [] ((stripW 0 tl true td tr lf tx rb N B R L G B2 R2 L2 G2 P W S Cc Y D) ++ (oW f ++ sT (modelH (tk 0 5) th tr wh lf tl sz ix so pl nu wd td (-1) (-1) tx Pm Dm ea pa co Sm Ccm V ba Bm Rm Lm Gm sk sp))) ca sl := by
  obtain ⟨hC, hSt, hM, -, -⟩ := hR
  obtain ⟨bA, bN, bI, ⟨t0, bt0, bt8, brX⟩, rA, rO, rI, lA, lU, l24, gA, gO, gG, gI⟩ := id hB
  obtain ⟨⟨n0, pn, pn8, pP⟩, pA, pO, pD⟩ := id hP
  obtain rfl : n0 = t0 := nI_inj (by omega) (by omega) (pn.symm.trans bt0)
  have rE := rEnd_g brX.1
  obtain ⟨u0, u1, u2, u3, -, b1, b2, b3, -, b15, b26, b36, -⟩ := id bI
  have q0 := told_m bA (s := 0) (by decide)
  have q1 := told_m bA (s := 1) (by decide)
  have q3 := told_m bA (s := 3) (by decide)
  have qs := sort_m bA
  have qr := rul_m bA
  have qp := per_m pA
  have qt := trv_m bA pA
  have qd := pdy_m pA
  have qc := con_m hD.1
  have z1 : Pm.2.2.2.2.2.2 = P.2.2.2.2.2.2 := pA.1.symm
  have z2 : Sm.2.2.2.2.2.1 = S.2.2.2.2.2.1 := hS.1.1.symm
  have z3 : Ccm.2.2.2.2.2.2.2 = Cc.2.2.2.2.2.2.2 := hC2.1.1.symm
  have z4 : Rm.2.2.2.2.2.2.2 = R.2.2.2.2.2.2.2 := rA.1.symm
  refine m1_16 hC hL hi ?_
  refine hSt 89 911 4 5 5 _ _ (coL_89 l) dcL_911 (by decide) (by decide) _ _ _ [.int (xs (i + 1)), .int (xs (i + 2)), .int (xs (i + 3))] [] _ _ rfl rfl rfl ⟨_, rfl⟩ (by decide) ?_
  refine ⟨_, _, _, _, _, _, _, _, _, _, _, _, _, _, _, _, _, _, _, _, _, _, n0, _, _, _, rfl, rfl, pO, pP, rO, rE, l24, pn, pn8, ?_⟩
  split
  · next c1 =>
    intro V
    split
    · next c2 =>
      refine kS hJ.2.2.2.1 ?_
      refine m2_16 hC hL hi ?_
      refine cM hM (coL_92 l) dcL_933 (by decide) (by decide) rfl [.int (xs (i + 1)), .int (xs (i + 2)), .int (xs (i + 3))] [_] hca hsl rfl rfl (by exact Nat.le_of_ble_eq_true rfl) ?_
      refine ⟨_, _, _, _, _, _, _, _, _, _, _, _, _, _, _, _, _, _, _, _, _, _, _, _, _, _, _, _, n0, _, _, _, rfl, rfl, (pOk_m pA pO), (pPl_m pA pP), (rOk_m rA rO), (rEnd_m rA rE), (l24_m lA l24), ((bA.1 0 (by decide)).symm.trans pn), pn8, ?_⟩
      rw [if_pos (by simpa only [q0, q1, q3, qs, qr, qp, qt, qd, qc, z1, z2, z3, z4, hD.1] using c1)]
      rw [if_pos (by rw [← (cheap_m pA lA rA brX pO pP pn pn8 c1 _ _)]; exact c2)]
      refine kM ?_
      exact m3_16 hC rfl (k _ _ _ (rw1 (rJ_tr hJ (by decide)) hB hP hS hC2 hY hD) (Nat.le_add_right _ _) (Nat.le_add_right _ _))
    · next c2 =>
      refine kS hJ.2.2.2.1 ?_
      refine m2_16 hC hL hi ?_
      refine cM hM (coL_92 l) dcL_933 (by decide) (by decide) rfl [.int (xs (i + 1)), .int (xs (i + 2)), .int (xs (i + 3))] [_] hca hsl rfl rfl (by exact Nat.le_of_ble_eq_true rfl) ?_
      refine ⟨_, _, _, _, _, _, _, _, _, _, _, _, _, _, _, _, _, _, _, _, _, _, _, _, _, _, _, _, n0, _, _, _, rfl, rfl, (pOk_m pA pO), (pPl_m pA pP), (rOk_m rA rO), (rEnd_m rA rE), (l24_m lA l24), ((bA.1 0 (by decide)).symm.trans pn), pn8, ?_⟩
      rw [if_pos (by simpa only [q0, q1, q3, qs, qr, qp, qt, qd, qc, z1, z2, z3, z4, hD.1] using c1)]
      rw [if_neg (by rw [← (cheap_m pA lA rA brX pO pP pn pn8 c1 _ _)]; exact c2)]
      refine kM ?_
      exact m3_16 hC (cheap_m pA lA rA brX pO pP pn pn8 c1 _ _) (k _ _ _ (rw1 (rJ_tr hJ (by decide)) hB hP hS hC2 hY hD) (Nat.le_add_right _ _) (Nat.le_add_right _ _))
  · next c1 =>
    refine kS hJ.2.2.2.1 ?_
    refine m2_16 hC hL hi ?_
    refine cM hM (coL_92 l) dcL_933 (by decide) (by decide) rfl [.int (xs (i + 1)), .int (xs (i + 2)), .int (xs (i + 3))] [_] hca hsl rfl rfl (by exact Nat.le_of_ble_eq_true rfl) ?_
    refine ⟨_, _, _, _, _, _, _, _, _, _, _, _, _, _, _, _, _, _, _, _, _, _, _, _, _, _, _, _, n0, _, _, _, rfl, rfl, (pOk_m pA pO), (pPl_m pA pP), (rOk_m rA rO), (rEnd_m rA rE), (l24_m lA l24), ((bA.1 0 (by decide)).symm.trans pn), pn8, ?_⟩
    rw [if_neg (by simpa only [q0, q1, q3, qs, qr, qp, qt, qd, qc, z1, z2, z3, z4, hD.1] using c1)]
    rw [qt]
    refine kM ?_
    exact m3_16 hC rfl (k _ _ _ (rw1 (rJ_tr hJ trv_n4) hB hP hS hC2 hY hD) (Nat.le_add_right _ _) (Nat.le_add_right _ _))
theorem o1_17 (hR : lwR l Ls xs z C) (hL : Ls ≤ 3072) (hi : i + 6 ≤ Ls) (hca : ca ≤ 601024) (hsl : sl ≤ 7293034) (hJ : rJ tl td tr tx rb N wh) (hB : bkR B R L G Bm Rm Lm Gm) (hP : rP B P Pm) (hS : rS S Sm) (hC2 : rC Cc Ccm) (hY : rY Y V) (hD : rD P D Dm) (k : ∀ aw ca' sl', RW aw → ca' ≤ ca + 26 → sl' ≤ sl + 608 → C 23 (LVL (i + 6)) [] aw ca' sl') : C 941 (LVL i) [] ((stripW 0 tl true td tr lf tx rb N B R L G B2 R2 L2 G2 P W S Cc Y D) ++ (oW f ++ sT (modelH (tk 0 5) th tr wh lf tl sz ix so pl nu wd td (-1) (-1) tx Pm Dm ea pa co Sm Ccm V ba Bm Rm Lm Gm sk sp))) ca sl := by
  obtain ⟨hC, hSt, hM, -, -⟩ := hR
  obtain ⟨bA, bN, bI, ⟨t0, bt0, bt8, brX⟩, rA, rO, rI, lA, lU, l24, gA, gO, gG, gI⟩ := id hB
  obtain ⟨⟨n0, pn, pn8, pP⟩, pA, pO, pD⟩ := id hP
  obtain rfl : n0 = t0 := nI_inj (by omega) (by omega) (pn.symm.trans bt0)
  have rE := rEnd_g brX.1
  obtain ⟨u0, u1, u2, u3, -, b1, b2, b3, -, b15, b26, b36, -⟩ := id bI
  have q0 := told_m bA (s := 0) (by decide)
  have q1 := told_m bA (s := 1) (by decide)
  have q3 := told_m bA (s := 3) (by decide)
  have qs := sort_m bA
  have qr := rul_m bA
  have qp := per_m pA
  have qt := trv_m bA pA
  have qd := pdy_m pA
  have qc := con_m hD.1
  have z1 : Pm.2.2.2.2.2.2 = P.2.2.2.2.2.2 := pA.1.symm
  have z2 : Sm.2.2.2.2.2.1 = S.2.2.2.2.2.1 := hS.1.1.symm
  have z3 : Ccm.2.2.2.2.2.2.2 = Cc.2.2.2.2.2.2.2 := hC2.1.1.symm
  have z4 : Rm.2.2.2.2.2.2.2 = R.2.2.2.2.2.2.2 := rA.1.symm
  refine m1_17 hC hL hi ?_
  refine hSt 93 954 3 5 4 _ _ (coL_93 l) dcL_954 (by decide) (by decide) _ _ _ [.int (xs (i + 1)), .int (xs (i + 2))] [] _ _ rfl rfl rfl ⟨_, rfl⟩ (by decide) ?_
  refine ⟨_, _, _, _, _, _, _, _, _, _, _, _, _, _, _, _, _, _, _, _, _, _, n0, _, _, rfl, rfl, pO, pP, rO, l24, pn, pn8, ?_⟩
  split
  · next c1 =>
    intro V
    refine kS hJ.2.2.2.1 ?_
    refine m2_17 hC hL hi ?_
    refine cM hM (coL_96 l) dcL_970 (by decide) (by decide) rfl [.int (xs (i + 1)), .int (xs (i + 2))] [_] hca hsl rfl rfl (by exact Nat.le_of_ble_eq_true rfl) ?_
    refine ⟨_, _, _, _, _, _, _, _, _, _, _, _, _, _, _, _, _, _, _, _, _, _, _, _, _, _, _, _, n0, _, _, rfl, rfl, (pOk_m pA pO), (pPl_m pA pP), (rOk_m rA rO), (rEnd_m rA rE), (l24_m lA l24), ((bA.1 0 (by decide)).symm.trans pn), pn8, ?_⟩
    rw [if_pos (by simpa only [q0, q1, q3, qs, qr, qp, qt, qd, qc, z1, z2, z3, z4, hD.1] using c1)]
    refine kM ?_
    exact m3_17 hC (reach_m pA lA rA brX rO pO pP pn8 c1 _) (k _ _ _ (rw1 (rJ_tr hJ (by decide)) hB hP hS hC2 hY hD) (Nat.le_add_right _ _) (Nat.le_add_right _ _))
  · next c1 =>
    refine kS hJ.2.2.2.1 ?_
    refine m2_17 hC hL hi ?_
    refine cM hM (coL_96 l) dcL_970 (by decide) (by decide) rfl [.int (xs (i + 1)), .int (xs (i + 2))] [_] hca hsl rfl rfl (by exact Nat.le_of_ble_eq_true rfl) ?_
    refine ⟨_, _, _, _, _, _, _, _, _, _, _, _, _, _, _, _, _, _, _, _, _, _, _, _, _, _, _, _, n0, _, _, rfl, rfl, (pOk_m pA pO), (pPl_m pA pP), (rOk_m rA rO), (rEnd_m rA rE), (l24_m lA l24), ((bA.1 0 (by decide)).symm.trans pn), pn8, ?_⟩
    rw [if_neg (by simpa only [q0, q1, q3, qs, qr, qp, qt, qd, qc, z1, z2, z3, z4, hD.1] using c1)]
    rw [qd]
    refine kM ?_
    exact m3_17 hC rfl (k _ _ _ (rw1 (rJ_tr hJ pdy_n4) hB hP hS hC2 hY hD) (Nat.le_add_right _ _) (Nat.le_add_right _ _))
theorem o1_18 (hR : lwR l Ls xs z C) (hL : Ls ≤ 3072) (hi : i + 6 ≤ Ls) (hca : ca ≤ 601024) (hsl : sl ≤ 7293034) (hJ : rJ tl td tr tx rb N wh) (hB : bkR B R L G Bm Rm Lm Gm) (hP : rP B P Pm) (hS : rS S Sm) (hC2 : rC Cc Ccm) (hY : rY Y V) (hD : rD P D Dm) (k : ∀ aw ca' sl', RW aw → ca' ≤ ca + 26 → sl' ≤ sl + 608 → C 23 (LVL (i + 6)) [] aw ca' sl') : C 978 (LVL i) [] ((stripW 0 tl true td tr lf tx rb N B R L G B2 R2 L2 G2 P W S Cc Y D) ++ (oW f ++ sT (modelH (tk 0 5) th tr wh lf tl sz ix so pl nu wd td (-1) (-1) tx Pm Dm ea pa co Sm Ccm V ba Bm Rm Lm Gm sk sp))) ca sl := by
  obtain ⟨hC, hSt, hM, -, -⟩ := hR
  obtain ⟨bA, bN, bI, ⟨t0, bt0, bt8, brX⟩, rA, rO, rI, lA, lU, l24, gA, gO, gG, gI⟩ := id hB
  obtain ⟨⟨n0, pn, pn8, pP⟩, pA, pO, pD⟩ := id hP
  obtain rfl : n0 = t0 := nI_inj (by omega) (by omega) (pn.symm.trans bt0)
  have rE := rEnd_g brX.1
  obtain ⟨u0, u1, u2, u3, -, b1, b2, b3, -, b15, b26, b36, -⟩ := id bI
  have q0 := told_m bA (s := 0) (by decide)
  have q1 := told_m bA (s := 1) (by decide)
  have q3 := told_m bA (s := 3) (by decide)
  have qs := sort_m bA
  have qr := rul_m bA
  have qp := per_m pA
  have qt := trv_m bA pA
  have qd := pdy_m pA
  have qc := con_m hD.1
  have z1 : Pm.2.2.2.2.2.2 = P.2.2.2.2.2.2 := pA.1.symm
  have z2 : Sm.2.2.2.2.2.1 = S.2.2.2.2.2.1 := hS.1.1.symm
  have z3 : Ccm.2.2.2.2.2.2.2 = Cc.2.2.2.2.2.2.2 := hC2.1.1.symm
  have z4 : Rm.2.2.2.2.2.2.2 = R.2.2.2.2.2.2.2 := rA.1.symm
  refine m1_18 hC hL hi ?_
  refine hSt 97 991 3 5 4 _ _ (coL_97 l) dcL_991 (by decide) (by decide) _ _ _ [.int (xs (i + 1)), .int (xs (i + 2))] [] _ _ rfl rfl rfl ⟨_, rfl⟩ (by decide) ?_
  refine ⟨_, _, _, _, _, _, _, _, _, _, _, _, _, _, _, _, _, _, _, _, _, _, n0, u3, u2, _, _, rfl, rfl, pO, pP, rO, l24, pn, pn8, b3, (by omega), b2, (by omega), ?_⟩
  split
  · next c1 =>
    intro V
    refine kS hJ.2.2.2.1 ?_
    refine m2_18 hC hL hi ?_
    refine cM hM (coL_100 l) dcL_1007 (by decide) (by decide) rfl [.int (xs (i + 1)), .int (xs (i + 2))] [_] hca hsl rfl rfl (by exact Nat.le_of_ble_eq_true rfl) ?_
    refine ⟨_, _, _, _, _, _, _, _, _, _, _, _, _, _, _, _, _, _, _, _, _, _, _, _, _, _, _, _, n0, u3, u2, _, _, rfl, rfl, (pOk_m pA pO), (pPl_m pA pP), (rOk_m rA rO), (rEnd_m rA rE), (l24_m lA l24), ((bA.1 0 (by decide)).symm.trans pn), pn8, ((bA.1 3 (by decide)).symm.trans b3), (by omega), ((bA.1 2 (by decide)).symm.trans b2), (by omega), ?_⟩
    rw [if_pos (by simpa only [q0, q1, q3, qs, qr, qp, qt, qd, qc, z1, z2, z3, z4, hD.1] using c1)]
    intro _
    refine kM ?_
    exact m3_18 hC (by rw [boF_cg (fun k o _ _ => (reach_m pA lA rA brX rO pO pP pn8 c1 _)), (reach_m pA lA rA brX rO pO pP pn8 c1 _)]) (k _ _ _ (rw1 (rJ_tr hJ (by decide)) hB hP hS hC2 hY hD) (Nat.le_add_right _ _) (Nat.le_add_right _ _))
  · next c1 =>
    refine kS hJ.2.2.2.1 ?_
    refine m2_18 hC hL hi ?_
    refine cM hM (coL_100 l) dcL_1007 (by decide) (by decide) rfl [.int (xs (i + 1)), .int (xs (i + 2))] [_] hca hsl rfl rfl (by exact Nat.le_of_ble_eq_true rfl) ?_
    refine ⟨_, _, _, _, _, _, _, _, _, _, _, _, _, _, _, _, _, _, _, _, _, _, _, _, _, _, _, _, n0, u3, u2, _, _, rfl, rfl, (pOk_m pA pO), (pPl_m pA pP), (rOk_m rA rO), (rEnd_m rA rE), (l24_m lA l24), ((bA.1 0 (by decide)).symm.trans pn), pn8, ((bA.1 3 (by decide)).symm.trans b3), (by omega), ((bA.1 2 (by decide)).symm.trans b2), (by omega), ?_⟩
    rw [if_neg (by simpa only [q0, q1, q3, qs, qr, qp, qt, qd, qc, z1, z2, z3, z4, hD.1] using c1)]
    rw [qd]
    refine kM ?_
    exact m3_18 hC rfl (k _ _ _ (rw1 (rJ_tr hJ pdy_n4) hB hP hS hC2 hY hD) (Nat.le_add_right _ _) (Nat.le_add_right _ _))
theorem o1_20 (hR : lwR l Ls xs z C) (hL : Ls ≤ 3072) (hi : i + 6 ≤ Ls) (hca : ca ≤ 601024) (hsl : sl ≤ 7293034) (hJ : rJ tl td tr tx rb N wh) (hB : bkR B R L G Bm Rm Lm Gm) (hP : rP B P Pm) (hS : rS S Sm) (hC2 : rC Cc Ccm) (hY : rY Y V) (hD : rD P D Dm) (k : ∀ aw ca' sl', RW aw → ca' ≤ ca + 26 → sl' ≤ sl + 608 → C 23 (LVL (i + 6)) [] aw ca' sl') : C 1064 (LVL i) [] ((stripW 0 tl true td tr lf tx rb N B R L G B2 R2 L2 G2 P W S Cc Y D) ++ (oW f ++ sT (modelH (tk 0 5) th tr wh lf tl sz ix so pl nu wd td (-1) (-1) tx Pm Dm ea pa co Sm Ccm V ba Bm Rm Lm Gm sk sp))) ca sl := by
  obtain ⟨hC, hSt, hM, -, -⟩ := hR
  obtain ⟨bA, bN, bI, ⟨t0, bt0, bt8, brX⟩, rA, rO, rI, lA, lU, l24, gA, gO, gG, gI⟩ := id hB
  obtain ⟨⟨n0, pn, pn8, pP⟩, pA, pO, pD⟩ := id hP
  obtain rfl : n0 = t0 := nI_inj (by omega) (by omega) (pn.symm.trans bt0)
  have rE := rEnd_g brX.1
  obtain ⟨u0, u1, u2, u3, -, b1, b2, b3, -, b15, b26, b36, -⟩ := id bI
  have q0 := told_m bA (s := 0) (by decide)
  have q1 := told_m bA (s := 1) (by decide)
  have q3 := told_m bA (s := 3) (by decide)
  have qs := sort_m bA
  have qr := rul_m bA
  have qp := per_m pA
  have qt := trv_m bA pA
  have qd := pdy_m pA
  have qc := con_m hD.1
  have z1 : Pm.2.2.2.2.2.2 = P.2.2.2.2.2.2 := pA.1.symm
  have z2 : Sm.2.2.2.2.2.1 = S.2.2.2.2.2.1 := hS.1.1.symm
  have z3 : Ccm.2.2.2.2.2.2.2 = Cc.2.2.2.2.2.2.2 := hC2.1.1.symm
  have z4 : Rm.2.2.2.2.2.2.2 = R.2.2.2.2.2.2.2 := rA.1.symm
  refine m1_20 hC hL hi ?_
  refine hSt 105 1083 4 4 4 _ _ (coL_105 l) dcL_1083 (by decide) (by decide) _ _ _ [.int (xs (i + 1)), .int (xs (i + 2)), .int (xs (i + 3))] [] _ _ rfl rfl rfl ⟨_, rfl⟩ (by decide) ?_
  refine ⟨_, _, _, _, _, _, _, _, _, _, _, _, _, _, _, _, _, _, _, _, _, _, n0, _, _, _, rfl, rfl, rO, l24, hS.2.1, pn, pn8, ?_⟩
  split
  · next c1 =>
    split
    · next c2 =>
      intro g1 g2
      split
      · next c3 =>
        refine kS hJ.2.2.2.1 ?_
        refine m2_20 hC hL hi ?_
        refine cM hM (coL_108 l) dcL_1105 (by decide) (by decide) rfl [.int (xs (i + 1)), .int (xs (i + 2)), .int (xs (i + 3))] [_] hca hsl rfl rfl (by exact Nat.le_of_ble_eq_true rfl) ?_
        refine ⟨_, _, _, _, _, _, _, _, _, _, _, _, _, _, _, _, _, _, _, _, _, _, _, _, _, _, _, _, _, _, _, rfl, rfl, (rOk_m rA rO), (l24_m lA l24), (by rw [← hS.1.1]; exact hS.2.1), ?_⟩
        rw [if_pos (by simpa only [q0, q1, q3, qs, qr, qp, qt, qd, qc, z1, z2, z3, z4, hD.1] using c1)]
        rw [if_pos (by simpa only [q0, q1, q3, qs, qr, qp, qt, qd, qc, z1, z2, z3, z4, hD.1] using c2)]
        intro _
        rw [if_pos ((byR_1 (least_m hS lA rA brX pn pn8 (by rw [Bool.and_eq_true] at c1; exact c1.1) c2)).mp c3)]
        refine kM ?_
        exact m3_20 hC rfl (k _ _ _ (rw1 (rJ_tr hJ (by decide)) hB hP (rS_f hS rfl) hC2 hY hD) (Nat.le_add_right _ _) (Nat.le_add_right _ _))
      · next c3 =>
        refine kS hJ.2.2.2.1 ?_
        refine m2_20 hC hL hi ?_
        refine cM hM (coL_108 l) dcL_1105 (by decide) (by decide) rfl [.int (xs (i + 1)), .int (xs (i + 2)), .int (xs (i + 3))] [_] hca hsl rfl rfl (by exact Nat.le_of_ble_eq_true rfl) ?_
        refine ⟨_, _, _, _, _, _, _, _, _, _, _, _, _, _, _, _, _, _, _, _, _, _, _, _, _, _, _, _, _, _, _, rfl, rfl, (rOk_m rA rO), (l24_m lA l24), (by rw [← hS.1.1]; exact hS.2.1), ?_⟩
        rw [if_pos (by simpa only [q0, q1, q3, qs, qr, qp, qt, qd, qc, z1, z2, z3, z4, hD.1] using c1)]
        rw [if_pos (by simpa only [q0, q1, q3, qs, qr, qp, qt, qd, qc, z1, z2, z3, z4, hD.1] using c2)]
        intro _
        rw [if_neg (fun z => c3 ((byR_1 (least_m hS lA rA brX pn pn8 (by rw [Bool.and_eq_true] at c1; exact c1.1) c2)).mpr z))]
        refine kM ?_
        exact m3_20 hC (byR_2 (least_m hS lA rA brX pn pn8 (by rw [Bool.and_eq_true] at c1; exact c1.1) c2) c3).1 (k _ _ _ (rw1 (rJ_tr hJ (by decide)) hB hP (rS_b hS (byR_2 (least_m hS lA rA brX pn pn8 (by rw [Bool.and_eq_true] at c1; exact c1.1) c2) c3).2) hC2 hY hD) (Nat.le_add_right _ _) (Nat.le_add_right _ _))
    · next c2 =>
      refine kS hJ.2.2.2.1 ?_
      refine m2_20 hC hL hi ?_
      refine cM hM (coL_108 l) dcL_1105 (by decide) (by decide) rfl [.int (xs (i + 1)), .int (xs (i + 2)), .int (xs (i + 3))] [_] hca hsl rfl rfl (by exact Nat.le_of_ble_eq_true rfl) ?_
      refine ⟨_, _, _, _, _, _, _, _, _, _, _, _, _, _, _, _, _, _, _, _, _, _, _, _, _, _, _, _, _, _, _, rfl, rfl, (rOk_m rA rO), (l24_m lA l24), (by rw [← hS.1.1]; exact hS.2.1), ?_⟩
      rw [if_pos (by simpa only [q0, q1, q3, qs, qr, qp, qt, qd, qc, z1, z2, z3, z4, hD.1] using c1)]
      rw [if_neg (by simpa only [q0, q1, q3, qs, qr, qp, qt, qd, qc, z1, z2, z3, z4, hD.1] using c2)]
      refine kM ?_
      exact m3_20 hC rfl (k _ _ _ (rw1 (rJ_tr hJ (by decide)) hB hP hS hC2 hY hD) (Nat.le_add_right _ _) (Nat.le_add_right _ _))
  · next c1 =>
    refine kS hJ.2.2.2.1 ?_
    refine m2_20 hC hL hi ?_
    refine cM hM (coL_108 l) dcL_1105 (by decide) (by decide) rfl [.int (xs (i + 1)), .int (xs (i + 2)), .int (xs (i + 3))] [_] hca hsl rfl rfl (by exact Nat.le_of_ble_eq_true rfl) ?_
    refine ⟨_, _, _, _, _, _, _, _, _, _, _, _, _, _, _, _, _, _, _, _, _, _, _, _, _, _, _, _, _, _, _, rfl, rfl, (rOk_m rA rO), (l24_m lA l24), (by rw [← hS.1.1]; exact hS.2.1), ?_⟩
    rw [if_neg (by simpa only [q0, q1, q3, qs, qr, qp, qt, qd, qc, z1, z2, z3, z4, hD.1] using c1)]
    refine kM ?_
    exact m3_20 hC rfl (k _ _ _ (rw1 (rJ_tr hJ (by decide)) hB hP hS hC2 hY hD) (Nat.le_add_right _ _) (Nat.le_add_right _ _))
theorem o1_22 (hR : lwR l Ls xs z C) (hL : Ls ≤ 3072) (hi : i + 6 ≤ Ls) (hca : ca ≤ 601024) (hsl : sl ≤ 7293034) (hJ : rJ tl td tr tx rb N wh) (hB : bkR B R L G Bm Rm Lm Gm) (hP : rP B P Pm) (hS : rS S Sm) (hC2 : rC Cc Ccm) (hY : rY Y V) (hD : rD P D Dm) (k : ∀ aw ca' sl', RW aw → ca' ≤ ca + 26 → sl' ≤ sl + 608 → C 23 (LVL (i + 6)) [] aw ca' sl') : C 1126 (LVL i) [] ((stripW 0 tl true td tr lf tx rb N B R L G B2 R2 L2 G2 P W S Cc Y D) ++ (oW f ++ sT (modelH (tk 0 5) th tr wh lf tl sz ix so pl nu wd td (-1) (-1) tx Pm Dm ea pa co Sm Ccm V ba Bm Rm Lm Gm sk sp))) ca sl := by
  obtain ⟨hC, hSt, hM, -, -⟩ := hR
  obtain ⟨bA, bN, bI, ⟨t0, bt0, bt8, brX⟩, rA, rO, rI, lA, lU, l24, gA, gO, gG, gI⟩ := id hB
  obtain ⟨⟨n0, pn, pn8, pP⟩, pA, pO, pD⟩ := id hP
  obtain rfl : n0 = t0 := nI_inj (by omega) (by omega) (pn.symm.trans bt0)
  have rE := rEnd_g brX.1
  obtain ⟨u0, u1, u2, u3, -, b1, b2, b3, -, b15, b26, b36, -⟩ := id bI
  have q0 := told_m bA (s := 0) (by decide)
  have q1 := told_m bA (s := 1) (by decide)
  have q3 := told_m bA (s := 3) (by decide)
  have qs := sort_m bA
  have qr := rul_m bA
  have qp := per_m pA
  have qt := trv_m bA pA
  have qd := pdy_m pA
  have qc := con_m hD.1
  have z1 : Pm.2.2.2.2.2.2 = P.2.2.2.2.2.2 := pA.1.symm
  have z2 : Sm.2.2.2.2.2.1 = S.2.2.2.2.2.1 := hS.1.1.symm
  have z3 : Ccm.2.2.2.2.2.2.2 = Cc.2.2.2.2.2.2.2 := hC2.1.1.symm
  have z4 : Rm.2.2.2.2.2.2.2 = R.2.2.2.2.2.2.2 := rA.1.symm
  refine m1_22 hC hL hi ?_
  refine hSt 113 1133 2 5 3 _ _ (coL_113 l) dcL_1133 (by decide) (by decide) _ _ _ [.int (xs (i + 1))] [] _ _ rfl rfl rfl ⟨_, rfl⟩ (by decide) ?_
  refine ⟨_, _, _, _, _, _, _, _, _, _, _, _, _, _, _, _, _, _, _, _, _, _, _, rfl, rfl, pO, gO, ?_⟩
  split
  · next c1 =>
    split
    · next c2 =>
      intro f
      refine kS hJ.2.2.2.1 ?_
      refine m2_22 hC hL hi ?_
      refine cM hM (coL_116 l) dcL_1143 (by decide) (by decide) rfl [.int (xs (i + 1))] [_] hca hsl rfl rfl (by exact Nat.le_of_ble_eq_true rfl) ?_
      refine ⟨_, _, _, _, _, _, _, _, _, _, _, _, _, _, _, _, _, _, _, _, _, _, _, _, _, _, _, _, _, rfl, rfl, (pOk_m pA pO), (gOk_m gA gO), ?_⟩
      rw [if_pos (by simpa only [q0, q1, q3, qs, qr, qp, qt, qd, qc, z1, z2, z3, z4, hD.1] using c1)]
      rw [if_pos (by simpa only [q0, q1, q3, qs, qr, qp, qt, qd, qc, z1, z2, z3, z4, hD.1] using c2)]
      refine kM ?_
      exact m3_22 hC (by rw [z1]) (k _ _ _ (rw1 (rJ_tr hJ (by decide)) hB (child_m hP gA gG gO hJ.2.2.2.2 c1 c2).1 hS hC2 hY (rD_add (child_m hP gA gG gO hJ.2.2.2.2 c1 c2).2 hD pA c2)) (Nat.le_add_right _ _) (Nat.le_add_right _ _))
    · next c2 =>
      refine kS hJ.2.2.2.1 ?_
      refine m2_22 hC hL hi ?_
      refine cM hM (coL_116 l) dcL_1143 (by decide) (by decide) rfl [.int (xs (i + 1))] [_] hca hsl rfl rfl (by exact Nat.le_of_ble_eq_true rfl) ?_
      refine ⟨_, _, _, _, _, _, _, _, _, _, _, _, _, _, _, _, _, _, _, _, _, _, _, _, _, _, _, _, _, rfl, rfl, (pOk_m pA pO), (gOk_m gA gO), ?_⟩
      rw [if_pos (by simpa only [q0, q1, q3, qs, qr, qp, qt, qd, qc, z1, z2, z3, z4, hD.1] using c1)]
      rw [if_neg (by simpa only [q0, q1, q3, qs, qr, qp, qt, qd, qc, z1, z2, z3, z4, hD.1] using c2)]
      refine kM ?_
      exact m3_22 hC rfl (k _ _ _ (rw1 (rJ_tr hJ (by decide)) hB hP hS hC2 hY hD) (Nat.le_add_right _ _) (Nat.le_add_right _ _))
  · next c1 =>
    refine kS hJ.2.2.2.1 ?_
    refine m2_22 hC hL hi ?_
    refine cM hM (coL_116 l) dcL_1143 (by decide) (by decide) rfl [.int (xs (i + 1))] [_] hca hsl rfl rfl (by exact Nat.le_of_ble_eq_true rfl) ?_
    refine ⟨_, _, _, _, _, _, _, _, _, _, _, _, _, _, _, _, _, _, _, _, _, _, _, _, _, _, _, _, _, rfl, rfl, (pOk_m pA pO), (gOk_m gA gO), ?_⟩
    rw [if_neg (by simpa only [q0, q1, q3, qs, qr, qp, qt, qd, qc, z1, z2, z3, z4, hD.1] using c1)]
    refine kM ?_
    exact m3_22 hC rfl (k _ _ _ (rw1 (rJ_tr hJ (by decide)) hB hP hS hC2 hY hD) (Nat.le_add_right _ _) (Nat.le_add_right _ _))
theorem o1_26 (hR : lwR l Ls xs z C) (hL : Ls ≤ 3072) (hi : i + 6 ≤ Ls) (hca : ca ≤ 601024) (hsl : sl ≤ 7293034) (hJ : rJ tl td tr tx rb N wh) (hB : bkR B R L G Bm Rm Lm Gm) (hP : rP B P Pm) (hS : rS S Sm) (hC2 : rC Cc Ccm) (hY : rY Y V) (hD : rD P D Dm) (k : ∀ aw ca' sl', RW aw → ca' ≤ ca + 26 → sl' ≤ sl + 608 → C 23 (LVL (i + 6)) [] aw ca' sl') : C 1334 (LVL i) [] ((stripW 0 tl true td tr lf tx rb N B R L G B2 R2 L2 G2 P W S Cc Y D) ++ (oW f ++ sT (modelH (tk 0 5) th tr wh lf tl sz ix so pl nu wd td (-1) (-1) tx Pm Dm ea pa co Sm Ccm V ba Bm Rm Lm Gm sk sp))) ca sl := by
  obtain ⟨hC, hSt, hM, -, -⟩ := hR
  obtain ⟨bA, bN, bI, ⟨t0, bt0, bt8, brX⟩, rA, rO, rI, lA, lU, l24, gA, gO, gG, gI⟩ := id hB
  obtain ⟨⟨n0, pn, pn8, pP⟩, pA, pO, pD⟩ := id hP
  obtain rfl : n0 = t0 := nI_inj (by omega) (by omega) (pn.symm.trans bt0)
  have rE := rEnd_g brX.1
  obtain ⟨u0, u1, u2, u3, -, b1, b2, b3, -, b15, b26, b36, -⟩ := id bI
  have q0 := told_m bA (s := 0) (by decide)
  have q1 := told_m bA (s := 1) (by decide)
  have q3 := told_m bA (s := 3) (by decide)
  have qs := sort_m bA
  have qr := rul_m bA
  have qp := per_m pA
  have qt := trv_m bA pA
  have qd := pdy_m pA
  have qc := con_m hD.1
  have z1 : Pm.2.2.2.2.2.2 = P.2.2.2.2.2.2 := pA.1.symm
  have z2 : Sm.2.2.2.2.2.1 = S.2.2.2.2.2.1 := hS.1.1.symm
  have z3 : Ccm.2.2.2.2.2.2.2 = Cc.2.2.2.2.2.2.2 := hC2.1.1.symm
  have z4 : Rm.2.2.2.2.2.2.2 = R.2.2.2.2.2.2.2 := rA.1.symm
  refine m1_26 hC hL hi ?_
  refine hSt 129 1347 3 1 3 _ _ (coL_129 l) dcL_1347 (by decide) (by decide) _ _ _ [.int (xs (i + 1)), .int (xs (i + 2))] [] _ _ rfl rfl rfl ⟨_, rfl⟩ (by decide) ?_
  refine ⟨_, _, _, _, _, _, _, _, _, _, _, _, _, _, _, _, _, _, _, _, _, _, _, _, rfl, rfl, hY.2.2.1, ?_⟩
  split
  · next c1 =>
    split
    · next c2 =>
      refine kS hJ.2.2.2.1 ?_
      refine m2_26 hC hL hi ?_
      refine cM hM (coL_132 l) dcL_1363 (by decide) (by decide) rfl [.int (xs (i + 1)), .int (xs (i + 2))] [_] hca hsl rfl rfl (by exact Nat.le_of_ble_eq_true rfl) ?_
      refine ⟨_, _, _, _, _, _, _, _, _, _, _, _, _, _, _, _, _, _, _, _, _, _, _, _, _, _, _, _, _, _, rfl, rfl, (vOk_m hY.1 hY.2.2.1), ?_⟩
      rw [if_pos c1.2]
      rw [if_pos (by simpa only [q0, q1, q3, qs, qr, qp, qt, qd, qc, z1, z2, z3, z4, hD.1] using c2)]
      refine kM ?_
      exact m3_26 hC rfl (k _ _ _ (rw1 (rJ_tr hJ (by decide)) hB hP hS hC2 hY hD) (Nat.le_add_right _ _) (Nat.le_add_right _ _))
    · next c2 =>
      split
      · next c3 =>
        refine kS hJ.2.2.2.1 ?_
        refine m2_26 hC hL hi ?_
        refine cM hM (coL_132 l) dcL_1363 (by decide) (by decide) rfl [.int (xs (i + 1)), .int (xs (i + 2))] [_] hca hsl rfl rfl (by exact Nat.le_of_ble_eq_true rfl) ?_
        refine ⟨_, _, _, _, _, _, _, _, _, _, _, _, _, _, _, _, _, _, _, _, _, _, _, _, _, _, _, _, _, _, rfl, rfl, (vOk_m hY.1 hY.2.2.1), ?_⟩
        rw [if_pos c1.2]
        rw [if_neg (by simpa only [q0, q1, q3, qs, qr, qp, qt, qd, qc, z1, z2, z3, z4, hD.1] using c2)]
        rw [if_pos (by rw [hY.1]; exact c3)]
        refine kM ?_
        exact m3_26 hC (by rw [hY.1]) (k _ _ _ (rw1 (rJ_tr hJ (by decide)) hB hP hS hC2 (rY_clause hY c1.2 c2 c3) hD) (Nat.le_add_right _ _) (Nat.le_add_right _ _))
      · next c3 =>
        refine kS hJ.2.2.2.1 ?_
        refine m2_26 hC hL hi ?_
        refine cM hM (coL_132 l) dcL_1363 (by decide) (by decide) rfl [.int (xs (i + 1)), .int (xs (i + 2))] [_] hca hsl rfl rfl (by exact Nat.le_of_ble_eq_true rfl) ?_
        refine ⟨_, _, _, _, _, _, _, _, _, _, _, _, _, _, _, _, _, _, _, _, _, _, _, _, _, _, _, _, _, _, rfl, rfl, (vOk_m hY.1 hY.2.2.1), ?_⟩
        rw [if_pos c1.2]
        rw [if_neg (by simpa only [q0, q1, q3, qs, qr, qp, qt, qd, qc, z1, z2, z3, z4, hD.1] using c2)]
        rw [if_neg (by rw [hY.1]; exact c3)]
        refine kM ?_
        exact m3_26 hC rfl (k _ _ _ (rw1 (rJ_tr hJ (by decide)) hB hP hS hC2 hY hD) (Nat.le_add_right _ _) (Nat.le_add_right _ _))
  · next c1 =>
    refine kS hJ.2.2.2.1 ?_
    refine m2_26 hC hL hi ?_
    refine cM hM (coL_132 l) dcL_1363 (by decide) (by decide) rfl [.int (xs (i + 1)), .int (xs (i + 2))] [_] hca hsl rfl rfl (by exact Nat.le_of_ble_eq_true rfl) ?_
    refine ⟨_, _, _, _, _, _, _, _, _, _, _, _, _, _, _, _, _, _, _, _, _, _, _, _, _, _, _, _, _, _, rfl, rfl, (vOk_m hY.1 hY.2.2.1), ?_⟩
    rw [if_neg (fun z => c1 ⟨rfl, z⟩)]
    refine kM ?_
    exact m3_26 hC rfl (k _ _ _ (rw1 (rJ_tr hJ (by decide)) hB hP hS hC2 hY hD) (Nat.le_add_right _ _) (Nat.le_add_right _ _))
theorem o1_27 (hR : lwR l Ls xs z C) (hL : Ls ≤ 3072) (hi : i + 6 ≤ Ls) (hca : ca ≤ 601024) (hsl : sl ≤ 7293034) (hJ : rJ tl td tr tx rb N wh) (hB : bkR B R L G Bm Rm Lm Gm) (hP : rP B P Pm) (hS : rS S Sm) (hC2 : rC Cc Ccm) (hY : rY Y V) (hD : rD P D Dm) (k : ∀ aw ca' sl', RW aw → ca' ≤ ca + 26 → sl' ≤ sl + 608 → C 23 (LVL (i + 6)) [] aw ca' sl') : C 1371 (LVL i) [] ((stripW 0 tl true td tr lf tx rb N B R L G B2 R2 L2 G2 P W S Cc Y D) ++ (oW f ++ sT (modelH (tk 0 5) th tr wh lf tl sz ix so pl nu wd td (-1) (-1) tx Pm Dm ea pa co Sm Ccm V ba Bm Rm Lm Gm sk sp))) ca sl := by
  obtain ⟨hC, hSt, hM, -, -⟩ := hR
  obtain ⟨bA, bN, bI, ⟨t0, bt0, bt8, brX⟩, rA, rO, rI, lA, lU, l24, gA, gO, gG, gI⟩ := id hB
  obtain ⟨⟨n0, pn, pn8, pP⟩, pA, pO, pD⟩ := id hP
  obtain rfl : n0 = t0 := nI_inj (by omega) (by omega) (pn.symm.trans bt0)
  have rE := rEnd_g brX.1
  obtain ⟨u0, u1, u2, u3, -, b1, b2, b3, -, b15, b26, b36, -⟩ := id bI
  have q0 := told_m bA (s := 0) (by decide)
  have q1 := told_m bA (s := 1) (by decide)
  have q3 := told_m bA (s := 3) (by decide)
  have qs := sort_m bA
  have qr := rul_m bA
  have qp := per_m pA
  have qt := trv_m bA pA
  have qd := pdy_m pA
  have qc := con_m hD.1
  have z1 : Pm.2.2.2.2.2.2 = P.2.2.2.2.2.2 := pA.1.symm
  have z2 : Sm.2.2.2.2.2.1 = S.2.2.2.2.2.1 := hS.1.1.symm
  have z3 : Ccm.2.2.2.2.2.2.2 = Cc.2.2.2.2.2.2.2 := hC2.1.1.symm
  have z4 : Rm.2.2.2.2.2.2.2 = R.2.2.2.2.2.2.2 := rA.1.symm
  refine m1_27 hC hL hi ?_
  refine hSt 133 1384 3 1 3 _ _ (coL_133 l) dcL_1384 (by decide) (by decide) _ _ _ [.int (xs (i + 1)), .int (xs (i + 2))] [] _ _ rfl rfl rfl ⟨_, rfl⟩ (by decide) ?_
  refine ⟨_, _, _, _, _, _, _, _, _, _, _, _, _, _, _, _, _, _, _, _, _, _, _, _, rfl, rfl, hY.2.2.2.2.1, ?_⟩
  rw [if_pos rfl]
  split
  · next c1 =>
    split
    · next c2 =>
      refine kS hJ.2.2.2.1 ?_
      refine m2_27 hC hL hi ?_
      refine cM hM (coL_136 l) dcL_1400 (by decide) (by decide) rfl [.int (xs (i + 1)), .int (xs (i + 2))] [_] hca hsl rfl rfl (by exact Nat.le_of_ble_eq_true rfl) ?_
      refine ⟨_, _, _, _, _, _, _, _, _, _, _, _, _, _, _, _, _, _, _, _, _, _, _, _, _, _, _, _, _, _, rfl, rfl, (by rw [hY.2.2.2.1]; exact hY.2.2.2.2.1), ?_⟩
      rw [if_pos (by simpa only [q0, q1, q3, qs, qr, qp, qt, qd, qc, z1, z2, z3, z4, hD.1] using c1)]
      rw [if_pos (by rw [hY.2.2.2.1]; exact c2)]
      refine kM ?_
      exact m3_27 hC (by rw [hY.2.2.2.1]) (k _ _ _ (rw1 (rJ_tr hJ (by decide)) hB hP hS hC2 (by rw [Bool.and_eq_true] at c1; exact rY_quar hY c1.1 c1.2 c2) hD) (Nat.le_add_right _ _) (Nat.le_add_right _ _))
    · next c2 =>
      refine kS hJ.2.2.2.1 ?_
      refine m2_27 hC hL hi ?_
      refine cM hM (coL_136 l) dcL_1400 (by decide) (by decide) rfl [.int (xs (i + 1)), .int (xs (i + 2))] [_] hca hsl rfl rfl (by exact Nat.le_of_ble_eq_true rfl) ?_
      refine ⟨_, _, _, _, _, _, _, _, _, _, _, _, _, _, _, _, _, _, _, _, _, _, _, _, _, _, _, _, _, _, rfl, rfl, (by rw [hY.2.2.2.1]; exact hY.2.2.2.2.1), ?_⟩
      rw [if_pos (by simpa only [q0, q1, q3, qs, qr, qp, qt, qd, qc, z1, z2, z3, z4, hD.1] using c1)]
      rw [if_neg (by rw [hY.2.2.2.1]; exact c2)]
      refine kM ?_
      exact m3_27 hC rfl (k _ _ _ (rw1 (rJ_tr hJ (by decide)) hB hP hS hC2 hY hD) (Nat.le_add_right _ _) (Nat.le_add_right _ _))
  · next c1 =>
    refine kS hJ.2.2.2.1 ?_
    refine m2_27 hC hL hi ?_
    refine cM hM (coL_136 l) dcL_1400 (by decide) (by decide) rfl [.int (xs (i + 1)), .int (xs (i + 2))] [_] hca hsl rfl rfl (by exact Nat.le_of_ble_eq_true rfl) ?_
    refine ⟨_, _, _, _, _, _, _, _, _, _, _, _, _, _, _, _, _, _, _, _, _, _, _, _, _, _, _, _, _, _, rfl, rfl, (by rw [hY.2.2.2.1]; exact hY.2.2.2.2.1), ?_⟩
    rw [if_neg (by simpa only [q0, q1, q3, qs, qr, qp, qt, qd, qc, z1, z2, z3, z4, hD.1] using c1)]
    refine kM ?_
    exact m3_27 hC rfl (k _ _ _ (rw1 (rJ_tr hJ (by decide)) hB hP hS hC2 hY hD) (Nat.le_add_right _ _) (Nat.le_add_right _ _))
theorem o1_28 (hR : lwR l Ls xs z C) (hL : Ls ≤ 3072) (hi : i + 6 ≤ Ls) (hca : ca ≤ 601024) (hsl : sl ≤ 7293034) (hJ : rJ tl td tr tx rb N wh) (hB : bkR B R L G Bm Rm Lm Gm) (hP : rP B P Pm) (hS : rS S Sm) (hC2 : rC Cc Ccm) (hY : rY Y V) (hD : rD P D Dm) (k : ∀ aw ca' sl', RW aw → ca' ≤ ca + 26 → sl' ≤ sl + 608 → C 23 (LVL (i + 6)) [] aw ca' sl') : C 1408 (LVL i) [] ((stripW 0 tl true td tr lf tx rb N B R L G B2 R2 L2 G2 P W S Cc Y D) ++ (oW f ++ sT (modelH (tk 0 5) th tr wh lf tl sz ix so pl nu wd td (-1) (-1) tx Pm Dm ea pa co Sm Ccm V ba Bm Rm Lm Gm sk sp))) ca sl := by
  obtain ⟨hC, hSt, hM, -, -⟩ := hR
  have fin : ∀ (Yn : YT) (r : Int32), rY Yn V → (∀ pi be, rY Yn (vPB V pi be)) → Yn.2.2.2.2.2.2.2.2 = 0 → r = Yn.2.2.2.2.2.2.1 → C 1412 (LVL i) [.int r] ((stripW 0 tl true td 0 lf tx rb N B R L G B2 R2 L2 G2 P W S Cc Yn D) ++ (oW f ++ sT (modelH (tk 0 5) th tr wh lf tl sz ix so pl nu wd td (-1) (-1) tx Pm Dm ea pa co Sm Ccm V ba Bm Rm Lm Gm sk sp))) ca sl := by
    intro Yn r hYn hYp h0 hr
    refine m2_28 hC hL hi ?_
    refine cM hM (coL_140 l) dcL_1413 (by decide) (by decide) rfl [] [_] hca hsl rfl rfl (by exact Nat.le_of_ble_eq_true rfl) ?_
    refine ⟨_, _, _, _, _, _, _, _, _, _, _, _, _, _, _, _, _, _, _, _, _, _, _, _, _, _, _, _, rfl, rfl, (vOk_m hY.1 hY.2.2.1), (by rw [hY.2.2.2.1]; exact hY.2.2.2.2.1), ?_⟩
    intro m be pi hb
    refine kM ?_
    exact m3_28 hC (hr.trans (sig_m hYn h0 hb).1) (k _ _ _ (rw1 (rJ_tr hJ (by decide)) hB hP hS hC2 (hYp _ _) hD) (Nat.le_add_right _ _) (Nat.le_add_right _ _))
  refine m1_28 hC hL hi ?_
  refine hSt 137 1409 1 13 1 _ _ (coL_137 l) dcL_1409 (by decide) (by decide) _ _ _ [] [] _ _ rfl rfl rfl ⟨_, rfl⟩ (by decide) ?_
  refine ⟨_, _, _, _, _, _, _, _, _, _, _, _, _, _, _, _, _, _, _, _, _, _, rfl, rfl, hY.2.2.1, ?_⟩
  rw [if_pos rfl]
  exact ⟨fun _ br hbr => kS hJ.2.2.2.1 (fin _ _ (rY_set (pi := V.2.2.2.2.1) (be := V.2.2.2.2.2.1) hY hbr) (fun _ _ => rY_set hY hbr) rfl rfl), fun h0 => kS hJ.2.2.2.1 (fin _ _ hY (fun _ _ => hY) h0 rfl)⟩
theorem o1_29 (hR : lwR l Ls xs z C) (hL : Ls ≤ 3072) (hi : i + 6 ≤ Ls) (hca : ca ≤ 601024) (hsl : sl ≤ 7293034) (hJ : rJ tl td tr tx rb N wh) (hB : bkR B R L G Bm Rm Lm Gm) (hP : rP B P Pm) (hS : rS S Sm) (hC2 : rC Cc Ccm) (hY : rY Y V) (hD : rD P D Dm) (k : ∀ aw ca' sl', RW aw → ca' ≤ ca + 26 → sl' ≤ sl + 608 → C 23 (LVL (i + 6)) [] aw ca' sl') : C 1421 (LVL i) [] ((stripW 0 tl true td tr lf tx rb N B R L G B2 R2 L2 G2 P W S Cc Y D) ++ (oW f ++ sT (modelH (tk 0 5) th tr wh lf tl sz ix so pl nu wd td (-1) (-1) tx Pm Dm ea pa co Sm Ccm V ba Bm Rm Lm Gm sk sp))) ca sl := by
  obtain ⟨hC, hSt, hM, -, -⟩ := hR
  have fin : ∀ (Yn : YT) (r : Int32), rY Yn V → (∀ pi be, rY Yn (vPB V pi be)) → Yn.2.2.2.2.2.2.2.2 = 0 → r = Yn.2.2.2.2.2.1 (xs (i + 1)).toNatClampNeg → thB (xs (i + 1)) = true → C 1431 (LVL i) [.int r] ((stripW 0 tl true td 0 lf tx rb N B R L G B2 R2 L2 G2 P W S Cc Yn D) ++ (oW f ++ sT (modelH (tk 0 5) th tr wh lf tl sz ix so pl nu wd td (-1) (-1) tx Pm Dm ea pa co Sm Ccm V ba Bm Rm Lm Gm sk sp))) ca sl := by
    intro Yn r hYn hYp h0 hr ht
    refine m2_29 hC hL hi ?_
    refine cM hM (coL_144 l) dcL_1438 (by decide) (by decide) rfl [.int (xs (i + 1))] [_] hca hsl rfl rfl (by exact Nat.le_of_ble_eq_true rfl) ?_
    refine ⟨_, _, _, _, _, _, _, _, _, _, _, _, _, _, _, _, _, _, _, _, _, _, _, _, _, _, _, _, _, rfl, rfl, (vOk_m hY.1 hY.2.2.1), (by rw [hY.2.2.2.1]; exact hY.2.2.2.2.1), ?_⟩
    rw [if_pos ht]
    intro m be pi hb
    refine kM ?_
    exact m3_29 hC (hr.trans ((sig_m hYn h0 hb).2 _ (by obtain ⟨q, e, hq⟩ := inI (x := xs (i + 1)) (n := 9) (by decide) (of_decide_eq_true ht); rw [e, nI_clamp (by omega)]; exact hq))) (k _ _ _ (rw1 (rJ_tr hJ (by decide)) hB hP hS hC2 (hYp _ _) hD) (Nat.le_add_right _ _) (Nat.le_add_right _ _))
  refine m1_29 hC hL hi ?_
  refine hSt 141 1428 2 13 2 _ _ (coL_141 l) dcL_1428 (by decide) (by decide) _ _ _ [.int (xs (i + 1))] [] _ _ rfl rfl rfl ⟨_, rfl⟩ (by decide) ?_
  refine ⟨_, _, _, _, _, _, _, _, _, _, _, _, _, _, _, _, _, _, _, _, _, _, _, rfl, rfl, hY.2.2.1, ?_⟩
  split
  · next c1 => exact ⟨fun _ br hbr => kS hJ.2.2.2.1 (fin _ _ (rY_set (pi := V.2.2.2.2.1) (be := V.2.2.2.2.2.1) hY hbr) (fun _ _ => rY_set hY hbr) rfl rfl c1.2), fun h0 => kS hJ.2.2.2.1 (fin _ _ hY (fun _ _ => hY) h0 rfl c1.2)⟩
  · next c1 =>
    refine kS hJ.2.2.2.1 ?_
    refine m2_29 hC hL hi ?_
    refine cM hM (coL_144 l) dcL_1438 (by decide) (by decide) rfl [.int (xs (i + 1))] [_] hca hsl rfl rfl (by exact Nat.le_of_ble_eq_true rfl) ?_
    refine ⟨_, _, _, _, _, _, _, _, _, _, _, _, _, _, _, _, _, _, _, _, _, _, _, _, _, _, _, _, _, rfl, rfl, (vOk_m hY.1 hY.2.2.1), (by rw [hY.2.2.2.1]; exact hY.2.2.2.2.1), ?_⟩
    rw [if_neg (fun z => c1 ⟨rfl, z⟩)]
    refine kM ?_
    exact m3_29 hC rfl (k _ _ _ (rw1 (rJ_tr hJ (by decide)) hB hP hS hC2 hY hD) (Nat.le_add_right _ _) (Nat.le_add_right _ _))
end O1
section O0b
variable {l : Launch} {Ls i ca sl : Nat} {xs : Nat → Int32} {z : q_K} {C : q_N} {tl : Nat} {tr : Int32} {lf : Int32} {tx : Nat → Int32} {rb : Value} {N : NT} {B2 : BT} {R2 : RT} {L2 : LT} {G2 : GT} {W : WT} {th : Int32} {wh : Int32} {sz : Int32} {ix : Int32} {so : Int32} {pl : Int32} {nu : Int32} {wd : Int64} {ea : Nat → Int32} {pa : Nat → Int32} {co : Nat → Int32} {ba : Nat → Int32} {sk sp : Int32} {fr : Value} {f : Nat → Int64}
set_option maxRecDepth 100000
theorem o0_0 (hR : lwR l Ls xs z C) (hL : Ls ≤ 3072) (hi : i + 6 ≤ Ls) (hca : ca ≤ 601024) (hsl : sl ≤ 7293034) (hJ : rJ tl 0 tr tx rb N wh) (hf : frOk fr) (k : ∀ aw ca' sl', RW aw → ca' ≤ ca + 26 → sl' ≤ sl + 608 → C 23 (LVL (i + 6)) [] aw ca' sl') : C 204 (LVL i) [] ((stripW 0 tl false 0 tr lf tx rb N zBT zRT zLT zGT B2 R2 L2 G2 zPT W zST zCT zYT zDT) ++ (oW f ++ sT (modelYN fr th tr wh lf tl sz ix so pl nu wd 0 (-1) (-1) tx zPT zDT ea pa co zST zCT zVT ba sk sp))) ca sl := by
  obtain ⟨hC, hS, hM, -, -⟩ := hR
  refine m1_0 hC hL hi ?_
  refine hS 19 235 6 1 6 _ _ (coL_19 l) dcL_235 (by decide) (by decide) _ _ _ [.int (xs (i + 1)), .int (xs (i + 2)), .int (xs (i + 3)), .int (xs (i + 4)), .int (xs (i + 5))] [] _ _ rfl rfl rfl ⟨_, rfl⟩ (by decide) ?_
  refine ⟨_, _, _, _, _, _, _, _, _, _, _, _, _, _, _, _, _, _, _, _, _, _, _, _, _, _, _, rfl, rfl, hJ.1, ?_⟩
  split
  · next c1 =>
    refine kS hJ.2.2.2.1 ?_
    refine m2_0 hC hL hi ?_
    refine cN hM (coL_23_n l) dcL_269 (by decide) (by decide) rfl [.int (xs (i + 1)), .int (xs (i + 2)), .int (xs (i + 3)), .int (xs (i + 4)), .int (xs (i + 5))] [_] hca hsl rfl rfl (by exact Nat.le_of_ble_eq_true rfl) hf ?_
    refine ⟨_, _, _, _, _, _, _, _, _, _, _, _, _, _, _, _, _, _, _, _, _, _, _, _, _, _, _, _, _, _, rfl, rfl, hf, hJ.1, ?_⟩
    rw [if_pos c1]
    refine kN hf ?_
    exact m3_0 hC rfl (k _ _ _ (rw0 (rJ_feed hJ c1) hf) (Nat.le_add_right _ _) (Nat.le_add_right _ _))
  · next c1 =>
    refine kS hJ.2.2.2.1 ?_
    refine m2_0 hC hL hi ?_
    refine cN hM (coL_23_n l) dcL_269 (by decide) (by decide) rfl [.int (xs (i + 1)), .int (xs (i + 2)), .int (xs (i + 3)), .int (xs (i + 4)), .int (xs (i + 5))] [_] hca hsl rfl rfl (by exact Nat.le_of_ble_eq_true rfl) hf ?_
    refine ⟨_, _, _, _, _, _, _, _, _, _, _, _, _, _, _, _, _, _, _, _, _, _, _, _, _, _, _, _, _, _, rfl, rfl, hf, hJ.1, ?_⟩
    rw [if_neg c1]
    refine kN hf ?_
    exact m3_0 hC rfl (k _ _ _ (rw0 hJ hf) (Nat.le_add_right _ _) (Nat.le_add_right _ _))
end O0b

