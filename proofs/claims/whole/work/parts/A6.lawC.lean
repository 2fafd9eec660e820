theorem open_m {P Pm : PT} {L Lm : LT} {R Rm : RT} {p : Nat} {r d mo : Int32} (h : pAg P Pm) (hl : lAg L Lm) (hr : rAg R Rm) (hro : rOk R) (hk : rKd R) (hp : p < P.2.2.2.2.2.2) (hrr : 0 ≤ r ∧ r < nI R.2.2.2.2.2.2.2) (hd : d ≤ 999) : openB P L R p r.toNatClampNeg d = opnW Rm Lm (metB Pm Lm Rm p d) (-1) mo d r.toNatClampNeg := by
  obtain ⟨q, rfl, hq⟩ := inI (by have := hro.1; omega) hrr
  rw [nI_clamp (by have := hro.1; omega), ← opnW_cg h hl hr hp hq hd, opnW_open (hk q hq)]
section O1
variable {l : Launch} {Ls i ca sl : Nat} {xs : Nat → Int32} {z : q_K} {C : q_N} {tl : Nat} {td : Int32} {tr : Int32} {lf : Int32} {tx : Nat → Int32} {rb : Value} {N : NT} {B : BT} {R : RT} {L : LT} {G : GT} {B2 : BT} {R2 : RT} {L2 : LT} {G2 : GT} {P : PT} {W : WT} {S : ST} {Cc : CT} {Y : YT} {D : DT} {th : Int32} {wh : Int32} {sz : Int32} {ix : Int32} {so : Int32} {pl : Int32} {nu : Int32} {wd : Int64} {ea : Nat → Int32} {pa : Nat → Int32} {co : Nat → Int32} {V : VT} {ba : Nat → Int32} {sk sp : Int32} {Pm : PT} {Dm : DT} {Sm : ST} {Ccm : CT} {Bm : BT} {Rm : RT} {Lm : LT} {Gm : GT} {f : Nat → Int64}
set_option maxRecDepth 100000
theorem o1_0 (hR : lwR l Ls xs z C) (hL : Ls ≤ 3072) (hi : i + 6 ≤ Ls) (hca : ca ≤ 601024) (hsl : sl ≤ 7293034) (hJ : rJ tl td tr tx rb N wh) (hB : bkR B R L G Bm Rm Lm Gm) (hP : rP B P Pm) (hS : rS S Sm) (hC2 : rC Cc Ccm) (hY : rY Y V) (hD : rD P D Dm) (k : ∀ aw ca' sl', RW aw → ca' ≤ ca + 26 → sl' ≤ sl + 608 → C 23 (LVL (i + 6)) [] aw ca' sl') : C 204 (LVL i) [] ((stripW 0 tl true td tr lf tx rb N B R L G B2 R2 L2 G2 P W S Cc Y D) ++ (oW f ++ sT (modelH (tk 0 5) th tr wh lf tl sz ix so pl nu wd td (-1) (-1) tx Pm Dm ea pa co Sm Ccm V ba Bm Rm Lm Gm sk sp))) ca sl := by
  obtain ⟨hC, hSt, hM, -, -⟩ := hR
  obtain ⟨bA, bN, bI, ⟨t0, bt0, bt8, brX⟩, rA, rO, rI, lA, lU, l24, gA, gO, gG, gI⟩ := id hB
  obtain ⟨⟨n0, pn, pn8, pP⟩, pA, pO, pD⟩ := id hP
  obtain rfl : n0 = t0 := nI_inj (by omega) (by omega) (pn.symm.trans bt0)
  have rE := rEnd_g brX.1
  obtain ⟨u0, u1, u2, u3, -, b1, b2, b3, -, b15, b26, b36, -⟩ := id bI
  have q0 := told_m bA (s := 0) (by decide)
  have q1 := told_m bA (s := 1) (by decide)
  have q3 := told_m bA (s := 3) (by decide)
  have qs := sort_m bA
  have qr := rul_m bA
  have qp := per_m pA
  have qt := trv_m bA pA
  have qd := pdy_m pA
  have qc := con_m hD.1
  have z1 : Pm.2.2.2.2.2.2 = P.2.2.2.2.2.2 := pA.1.symm
  have z2 : Sm.2.2.2.2.2.1 = S.2.2.2.2.2.1 := hS.1.1.symm
  have z3 : Ccm.2.2.2.2.2.2.2 = Cc.2.2.2.2.2.2.2 := hC2.1.1.symm
  have z4 : Rm.2.2.2.2.2.2.2 = R.2.2.2.2.2.2.2 := rA.1.symm
  refine m1_0 hC hL hi ?_
  refine hSt 19 235 6 1 6 _ _ (coL_19 l) dcL_235 (by decide) (by decide) _ _ _ [.int (xs (i + 1)), .int (xs (i + 2)), .int (xs (i + 3)), .int (xs (i + 4)), .int (xs (i + 5))] [] _ _ rfl rfl rfl ⟨_, rfl⟩ (by decide) ?_
  refine ⟨_, _, _, _, _, _, _, _, _, _, _, _, _, _, _, _, _, _, _, _, _, _, _, _, _, _, _, rfl, rfl, hJ.1, ?_⟩
  split
  · next c1 =>
    refine kS hJ.2.2.2.1 ?_
    refine m2_0 hC hL hi ?_
    refine cM hM (coL_23 l) dcL_269 (by decide) (by decide) rfl [.int (xs (i + 1)), .int (xs (i + 2)), .int (xs (i + 3)), .int (xs (i + 4)), .int (xs (i + 5))] [_] hca hsl rfl rfl (by exact Nat.le_of_ble_eq_true rfl) ?_
    refine ⟨_, _, _, _, _, _, _, _, _, _, _, _, _, _, _, _, _, _, _, _, _, _, _, _, _, _, _, _, _, _, _, _, _, rfl, rfl, hJ.1, ?_⟩
    rw [if_pos (by simpa only [q0, q1, q3, qs, qr, qp, qt, qd, qc, z1, z2, z3, z4, hD.1] using c1)]
    refine kM ?_
    exact m3_0 hC rfl (k _ _ _ (rw1 (rJ_feed hJ c1) hB hP hS hC2 hY hD) (Nat.le_add_right _ _) (Nat.le_add_right _ _))
  · next c1 =>
    refine kS hJ.2.2.2.1 ?_
    refine m2_0 hC hL hi ?_
    refine cM hM (coL_23 l) dcL_269 (by decide) (by decide) rfl [.int (xs (i + 1)), .int (xs (i + 2)), .int (xs (i + 3)), .int (xs (i + 4)), .int (xs (i + 5))] [_] hca hsl rfl rfl (by exact Nat.le_of_ble_eq_true rfl) ?_
    refine ⟨_, _, _, _, _, _, _, _, _, _, _, _, _, _, _, _, _, _, _, _, _, _, _, _, _, _, _, _, _, _, _, _, _, rfl, rfl, hJ.1, ?_⟩
    rw [if_neg (by simpa only [q0, q1, q3, qs, qr, qp, qt, qd, qc, z1, z2, z3, z4, hD.1] using c1)]
    refine kM ?_
    exact m3_0 hC rfl (k _ _ _ (rw1 hJ hB hP hS hC2 hY hD) (Nat.le_add_right _ _) (Nat.le_add_right _ _))
theorem o1_5 (hR : lwR l Ls xs z C) (hL : Ls ≤ 3072) (hi : i + 6 ≤ Ls) (hca : ca ≤ 601024) (hsl : sl ≤ 7293034) (hJ : rJ tl td tr tx rb N wh) (hB : bkR B R L G Bm Rm Lm Gm) (hP : rP B P Pm) (hS : rS S Sm) (hC2 : rC Cc Ccm) (hY : rY Y V) (hD : rD P D Dm) (k : ∀ aw ca' sl', RW aw → ca' ≤ ca + 26 → sl' ≤ sl + 608 → C 23 (LVL (i + 6)) [] aw ca' sl') : C 353 (LVL i) [] ((stripW 0 tl true td tr lf tx rb N B R L G B2 R2 L2 G2 P W S Cc Y D) ++ (oW f ++ sT (modelH (tk 0 5) th tr wh lf tl sz ix so pl nu wd td (-1) (-1) tx Pm Dm ea pa co Sm Ccm V ba Bm Rm Lm Gm sk sp))) ca sl := by
  obtain ⟨hC, hSt, hM, -, -⟩ := hR
  obtain ⟨bA, bN, bI, ⟨t0, bt0, bt8, brX⟩, rA, rO, rI, lA, lU, l24, gA, gO, gG, gI⟩ := id hB
  obtain ⟨⟨n0, pn, pn8, pP⟩, pA, pO, pD⟩ := id hP
  obtain rfl : n0 = t0 := nI_inj (by omega) (by omega) (pn.symm.trans bt0)
  have rE := rEnd_g brX.1
  obtain ⟨u0, u1, u2, u3, -, b1, b2, b3, -, b15, b26, b36, -⟩ := id bI
  have q0 := told_m bA (s := 0) (by decide)
  have q1 := told_m bA (s := 1) (by decide)
  have q3 := told_m bA (s := 3) (by decide)
  have qs := sort_m bA
  have qr := rul_m bA
  have qp := per_m pA
  have qt := trv_m bA pA
  have qd := pdy_m pA
  have qc := con_m hD.1
  have z1 : Pm.2.2.2.2.2.2 = P.2.2.2.2.2.2 := pA.1.symm
  have z2 : Sm.2.2.2.2.2.1 = S.2.2.2.2.2.1 := hS.1.1.symm
  have z3 : Ccm.2.2.2.2.2.2.2 = Cc.2.2.2.2.2.2.2 := hC2.1.1.symm
  have z4 : Rm.2.2.2.2.2.2.2 = R.2.2.2.2.2.2.2 := rA.1.symm
  refine m1_5 hC hL hi ?_
  refine hSt 42 360 2 1 2 _ _ (coL_42 l) dcL_360 (by decide) (by decide) _ _ _ [.int (xs (i + 1))] [] _ _ rfl rfl rfl ⟨_, rfl⟩ (by decide) ?_
  refine ⟨_, _, _, _, _, _, _, _, _, _, _, _, _, _, _, _, _, _, _, _, _, _, _, rfl, rfl, ?_⟩
  rw [if_pos rfl]
  split
  · next c1 =>
    refine kS hJ.2.2.2.1 ?_
    refine m2_5 hC hL hi ?_
    refine cM hM (coL_45 l) dcL_370 (by decide) (by decide) rfl [.int (xs (i + 1))] [_] hca hsl rfl rfl (by exact Nat.le_of_ble_eq_true rfl) ?_
    refine ⟨_, _, _, _, _, _, _, _, _, _, _, _, _, _, _, _, _, _, _, _, _, _, _, _, _, _, _, _, _, rfl, rfl, ?_⟩
    rw [if_pos (by simpa only [q0, q1, q3, qs, qr, qp, qt, qd, qc, z1, z2, z3, z4, hD.1] using c1)]
    refine kM ?_
    exact m3_5 hC rfl (k _ _ _ (rw1 (rJ_tr hJ (by decide)) hB hP hS hC2 hY hD) (Nat.le_add_right _ _) (Nat.le_add_right _ _))
  · next c1 =>
    refine kS hJ.2.2.2.1 ?_
    refine m2_5 hC hL hi ?_
    refine cM hM (coL_45 l) dcL_370 (by decide) (by decide) rfl [.int (xs (i + 1))] [_] hca hsl rfl rfl (by exact Nat.le_of_ble_eq_true rfl) ?_
    refine ⟨_, _, _, _, _, _, _, _, _, _, _, _, _, _, _, _, _, _, _, _, _, _, _, _, _, _, _, _, _, rfl, rfl, ?_⟩
    rw [if_neg (by simpa only [q0, q1, q3, qs, qr, qp, qt, qd, qc, z1, z2, z3, z4, hD.1] using c1)]
    refine kM ?_
    exact m3_5 hC rfl (k _ _ _ (rw1 (rJ_pass hJ c1) hB hP hS hC2 hY hD) (Nat.le_add_right _ _) (Nat.le_add_right _ _))
theorem o1_8 (hR : lwR l Ls xs z C) (hL : Ls ≤ 3072) (hi : i + 6 ≤ Ls) (hca : ca ≤ 601024) (hsl : sl ≤ 7293034) (hJ : rJ tl td tr tx rb N wh) (hB : bkR B R L G Bm Rm Lm Gm) (hP : rP B P Pm) (hS : rS S Sm) (hC2 : rC Cc Ccm) (hY : rY Y V) (hD : rD P D Dm) (k : ∀ aw ca' sl', RW aw → ca' ≤ ca + 26 → sl' ≤ sl + 608 → C 23 (LVL (i + 6)) [] aw ca' sl') : C 524 (LVL i) [] ((stripW 0 tl true td tr lf tx rb N B R L G B2 R2 L2 G2 P W S Cc Y D) ++ (oW f ++ sT (modelH (tk 0 5) th tr wh lf tl sz ix so pl nu wd td (-1) (-1) tx Pm Dm ea pa co Sm Ccm V ba Bm Rm Lm Gm sk sp))) ca sl := by
  obtain ⟨hC, hSt, hM, -, -⟩ := hR
  obtain ⟨bA, bN, bI, ⟨t0, bt0, bt8, brX⟩, rA, rO, rI, lA, lU, l24, gA, gO, gG, gI⟩ := id hB
  obtain ⟨⟨n0, pn, pn8, pP⟩, pA, pO, pD⟩ := id hP
  obtain rfl : n0 = t0 := nI_inj (by omega) (by omega) (pn.symm.trans bt0)
  have rE := rEnd_g brX.1
  obtain ⟨u0, u1, u2, u3, -, b1, b2, b3, -, b15, b26, b36, -⟩ := id bI
  have q0 := told_m bA (s := 0) (by decide)
  have q1 := told_m bA (s := 1) (by decide)
  have q3 := told_m bA (s := 3) (by decide)
  have qs := sort_m bA
  have qr := rul_m bA
  have qp := per_m pA
  have qt := trv_m bA pA
  have qd := pdy_m pA
  have qc := con_m hD.1
  have z1 : Pm.2.2.2.2.2.2 = P.2.2.2.2.2.2 := pA.1.symm
  have z2 : Sm.2.2.2.2.2.1 = S.2.2.2.2.2.1 := hS.1.1.symm
  have z3 : Ccm.2.2.2.2.2.2.2 = Cc.2.2.2.2.2.2.2 := hC2.1.1.symm
  have z4 : Rm.2.2.2.2.2.2.2 = R.2.2.2.2.2.2.2 := rA.1.symm
  refine m1_8 hC hL hi ?_
  refine hSt 54 531 2 1 2 _ _ (coL_54 l) dcL_531 (by decide) (by decide) _ _ _ [.int (xs (i + 1))] [] _ _ rfl rfl rfl ⟨_, rfl⟩ (by decide) ?_
  refine ⟨_, _, _, _, _, _, _, _, _, _, _, _, _, _, _, _, _, _, _, _, _, _, _, rfl, rfl, pO.1, ?_⟩
  split
  · next c1 =>
    split
    · next c2 =>
      refine kS hJ.2.2.2.1 ?_
      refine m2_8 hC hL hi ?_
      refine cM hM (coL_57 l) dcL_541 (by decide) (by decide) rfl [.int (xs (i + 1))] [_] hca hsl rfl rfl (by exact Nat.le_of_ble_eq_true rfl) ?_
      refine ⟨_, _, _, _, _, _, _, _, _, _, _, _, _, _, _, _, _, _, _, _, _, _, _, _, _, _, _, _, _, rfl, rfl, (pOk_m pA pO).1, ?_⟩
      rw [if_pos (by simpa only [q0, q1, q3, qs, qr, qp, qt, qd, qc, z1, z2, z3, z4, hD.1] using c1)]
      rw [if_pos (by simpa only [q0, q1, q3, qs, qr, qp, qt, qd, qc, z1, z2, z3, z4, hD.1] using c2)]
      refine kM ?_
      exact m3_8 hC (by rw [z1]) (k _ _ _ (rw1 (rJ_tr hJ (by decide)) hB (rP_add hP c1 c2) hS hC2 hY (rD_add rfl hD pA c2)) (Nat.le_add_right _ _) (Nat.le_add_right _ _))
    · next c2 =>
      refine kS hJ.2.2.2.1 ?_
      refine m2_8 hC hL hi ?_
      refine cM hM (coL_57 l) dcL_541 (by decide) (by decide) rfl [.int (xs (i + 1))] [_] hca hsl rfl rfl (by exact Nat.le_of_ble_eq_true rfl) ?_
      refine ⟨_, _, _, _, _, _, _, _, _, _, _, _, _, _, _, _, _, _, _, _, _, _, _, _, _, _, _, _, _, rfl, rfl, (pOk_m pA pO).1, ?_⟩
      rw [if_pos (by simpa only [q0, q1, q3, qs, qr, qp, qt, qd, qc, z1, z2, z3, z4, hD.1] using c1)]
      rw [if_neg (by simpa only [q0, q1, q3, qs, qr, qp, qt, qd, qc, z1, z2, z3, z4, hD.1] using c2)]
      refine kM ?_
      exact m3_8 hC rfl (k _ _ _ (rw1 (rJ_tr hJ (by decide)) hB hP hS hC2 hY hD) (Nat.le_add_right _ _) (Nat.le_add_right _ _))
  · next c1 =>
    refine kS hJ.2.2.2.1 ?_
    refine m2_8 hC hL hi ?_
    refine cM hM (coL_57 l) dcL_541 (by decide) (by decide) rfl [.int (xs (i + 1))] [_] hca hsl rfl rfl (by exact Nat.le_of_ble_eq_true rfl) ?_
    refine ⟨_, _, _, _, _, _, _, _, _, _, _, _, _, _, _, _, _, _, _, _, _, _, _, _, _, _, _, _, _, rfl, rfl, (pOk_m pA pO).1, ?_⟩
    rw [if_neg (by simpa only [q0, q1, q3, qs, qr, qp, qt, qd, qc, z1, z2, z3, z4, hD.1] using c1)]
    refine kM ?_
    exact m3_8 hC rfl (k _ _ _ (rw1 (rJ_tr hJ (by decide)) hB hP hS hC2 hY hD) (Nat.le_add_right _ _) (Nat.le_add_right _ _))
theorem o1_9 (hR : lwR l Ls xs z C) (hL : Ls ≤ 3072) (hi : i + 6 ≤ Ls) (hca : ca ≤ 601024) (hsl : sl ≤ 7293034) (hJ : rJ tl td tr tx rb N wh) (hB : bkR B R L G Bm Rm Lm Gm) (hP : rP B P Pm) (hS : rS S Sm) (hC2 : rC Cc Ccm) (hY : rY Y V) (hD : rD P D Dm) (k : ∀ aw ca' sl', RW aw → ca' ≤ ca + 26 → sl' ≤ sl + 608 → C 23 (LVL (i + 6)) [] aw ca' sl') : C 549 (LVL i) [] ((stripW 0 tl true td tr lf tx rb N B R L G B2 R2 L2 G2 P W S Cc Y D) ++ (oW f ++ sT (modelH (tk 0 5) th tr wh lf tl sz ix so pl nu wd td (-1) (-1) tx Pm Dm ea pa co Sm Ccm V ba Bm Rm Lm Gm sk sp))) ca sl := by
  obtain ⟨hC, hSt, hM, -, -⟩ := hR
  obtain ⟨bA, bN, bI, ⟨t0, bt0, bt8, brX⟩, rA, rO, rI, lA, lU, l24, gA, gO, gG, gI⟩ := id hB
  obtain ⟨⟨n0, pn, pn8, pP⟩, pA, pO, pD⟩ := id hP
  obtain rfl : n0 = t0 := nI_inj (by omega) (by omega) (pn.symm.trans bt0)
  have rE := rEnd_g brX.1
  obtain ⟨u0, u1, u2, u3, -, b1, b2, b3, -, b15, b26, b36, -⟩ := id bI
  have q0 := told_m bA (s := 0) (by decide)
  have q1 := told_m bA (s := 1) (by decide)
  have q3 := told_m bA (s := 3) (by decide)
  have qs := sort_m bA
  have qr := rul_m bA
  have qp := per_m pA
  have qt := trv_m bA pA
  have qd := pdy_m pA
  have qc := con_m hD.1
  have z1 : Pm.2.2.2.2.2.2 = P.2.2.2.2.2.2 := pA.1.symm
  have z2 : Sm.2.2.2.2.2.1 = S.2.2.2.2.2.1 := hS.1.1.symm
  have z3 : Ccm.2.2.2.2.2.2.2 = Cc.2.2.2.2.2.2.2 := hC2.1.1.symm
  have z4 : Rm.2.2.2.2.2.2.2 = R.2.2.2.2.2.2.2 := rA.1.symm
  refine m1_9 hC hL hi ?_
  refine hSt 58 580 6 2 6 _ _ (coL_58 l) dcL_580 (by decide) (by decide) _ _ _ [.int (xs (i + 1)), .int (xs (i + 2)), .int (xs (i + 3)), .int (xs (i + 4)), .int (xs (i + 5))] [] _ _ rfl rfl rfl ⟨_, rfl⟩ (by decide) ?_
  refine ⟨_, _, _, _, _, _, _, _, _, _, _, _, _, _, _, _, _, _, _, _, _, _, _, _, _, _, _, rfl, rfl, pO, ?_⟩
  split
  · next c1 =>
    split
    · next c2 =>
      split
      · next c3 =>
        refine kS hJ.2.2.2.1 ?_
        refine m2_9 hC hL hi ?_
        refine cM hM (coL_61 l) dcL_614 (by decide) (by decide) rfl [.int (xs (i + 1)), .int (xs (i + 2)), .int (xs (i + 3)), .int (xs (i + 4)), .int (xs (i + 5))] [_] hca hsl rfl rfl (by exact Nat.le_of_ble_eq_true rfl) ?_
        refine ⟨_, _, _, _, _, _, _, _, _, _, _, _, _, _, _, _, _, _, _, _, _, _, _, _, _, _, _, _, _, _, _, _, _, rfl, rfl, (pOk_m pA pO), ?_⟩
        rw [if_pos (by simpa only [q0, q1, q3, qs, qr, qp, qt, qd, qc, z1, z2, z3, z4, hD.1] using c1)]
        rw [if_pos (by simpa only [q0, q1, q3, qs, qr, qp, qt, qd, qc, z1, z2, z3, z4, hD.1] using c2)]
        rw [if_pos (by rw [Bool.and_eq_true] at c1; rw [← pcN_cg pA (per_lt pO c1.1)]; exact c3)]
        refine kM ?_
        exact m3_9 hC (by rw [Bool.and_eq_true] at c1; rw [pcN_cg pA (per_lt pO c1.1)]) (k _ _ _ (rw1 (rJ_tr hJ (by decide)) hB (by rw [Bool.and_eq_true] at c1 c2; exact rP_give hP c1.1 c3 (dayB_I c2.1)) hS hC2 hY hD) (Nat.le_add_right _ _) (Nat.le_add_right _ _))
      · next c3 =>
        refine kS hJ.2.2.2.1 ?_
        refine m2_9 hC hL hi ?_
        refine cM hM (coL_61 l) dcL_614 (by decide) (by decide) rfl [.int (xs (i + 1)), .int (xs (i + 2)), .int (xs (i + 3)), .int (xs (i + 4)), .int (xs (i + 5))] [_] hca hsl rfl rfl (by exact Nat.le_of_ble_eq_true rfl) ?_
        refine ⟨_, _, _, _, _, _, _, _, _, _, _, _, _, _, _, _, _, _, _, _, _, _, _, _, _, _, _, _, _, _, _, _, _, rfl, rfl, (pOk_m pA pO), ?_⟩
        rw [if_pos (by simpa only [q0, q1, q3, qs, qr, qp, qt, qd, qc, z1, z2, z3, z4, hD.1] using c1)]
        rw [if_pos (by simpa only [q0, q1, q3, qs, qr, qp, qt, qd, qc, z1, z2, z3, z4, hD.1] using c2)]
        rw [if_neg (by rw [Bool.and_eq_true] at c1; rw [← pcN_cg pA (per_lt pO c1.1)]; exact c3)]
        refine kM ?_
        exact m3_9 hC rfl (k _ _ _ (rw1 (rJ_tr hJ (by decide)) hB hP hS hC2 hY hD) (Nat.le_add_right _ _) (Nat.le_add_right _ _))
    · next c2 =>
      refine kS hJ.2.2.2.1 ?_
      refine m2_9 hC hL hi ?_
      refine cM hM (coL_61 l) dcL_614 (by decide) (by decide) rfl [.int (xs (i + 1)), .int (xs (i + 2)), .int (xs (i + 3)), .int (xs (i + 4)), .int (xs (i + 5))] [_] hca hsl rfl rfl (by exact Nat.le_of_ble_eq_true rfl) ?_
      refine ⟨_, _, _, _, _, _, _, _, _, _, _, _, _, _, _, _, _, _, _, _, _, _, _, _, _, _, _, _, _, _, _, _, _, rfl, rfl, (pOk_m pA pO), ?_⟩
      rw [if_pos (by simpa only [q0, q1, q3, qs, qr, qp, qt, qd, qc, z1, z2, z3, z4, hD.1] using c1)]
      rw [if_neg (by simpa only [q0, q1, q3, qs, qr, qp, qt, qd, qc, z1, z2, z3, z4, hD.1] using c2)]
      refine kM ?_
      exact m3_9 hC rfl (k _ _ _ (rw1 (rJ_tr hJ (by decide)) hB hP hS hC2 hY hD) (Nat.le_add_right _ _) (Nat.le_add_right _ _))
  · next c1 =>
    refine kS hJ.2.2.2.1 ?_
    refine m2_9 hC hL hi ?_
    refine cM hM (coL_61 l) dcL_614 (by decide) (by decide) rfl [.int (xs (i + 1)), .int (xs (i + 2)), .int (xs (i + 3)), .int (xs (i + 4)), .int (xs (i + 5))] [_] hca hsl rfl rfl (by exact Nat.le_of_ble_eq_true rfl) ?_
    refine ⟨_, _, _, _, _, _, _, _, _, _, _, _, _, _, _, _, _, _, _, _, _, _, _, _, _, _, _, _, _, _, _, _, _, rfl, rfl, (pOk_m pA pO), ?_⟩
    rw [if_neg (by simpa only [q0, q1, q3, qs, qr, qp, qt, qd, qc, z1, z2, z3, z4, hD.1] using c1)]
    refine kM ?_
    exact m3_9 hC rfl (k _ _ _ (rw1 (rJ_tr hJ (by decide)) hB hP hS hC2 hY hD) (Nat.le_add_right _ _) (Nat.le_add_right _ _))
theorem o1_11 (hR : lwR l Ls xs z C) (hL : Ls ≤ 3072) (hi : i + 6 ≤ Ls) (hca : ca ≤ 601024) (hsl : sl ≤ 7293034) (hJ : rJ tl td tr tx rb N wh) (hB : bkR B R L G Bm Rm Lm Gm) (hP : rP B P Pm) (hS : rS S Sm) (hC2 : rC Cc Ccm) (hY : rY Y V) (hD : rD P D Dm) (k : ∀ aw ca' sl', RW aw → ca' ≤ ca + 26 → sl' ≤ sl + 608 → C 23 (LVL (i + 6)) [] aw ca' sl') : C 671 (LVL i) [] ((stripW 0 tl true td tr lf tx rb N B R L G B2 R2 L2 G2 P W S Cc Y D) ++ (oW f ++ sT (modelH (tk 0 5) th tr wh lf tl sz ix so pl nu wd td (-1) (-1) tx Pm Dm ea pa co Sm Ccm V ba Bm Rm Lm Gm sk sp))) ca sl := by
  obtain ⟨hC, hSt, hM, -, -⟩ := hR
  obtain ⟨bA, bN, bI, ⟨t0, bt0, bt8, brX⟩, rA, rO, rI, lA, lU, l24, gA, gO, gG, gI⟩ := id hB
  obtain ⟨⟨n0, pn, pn8, pP⟩, pA, pO, pD⟩ := id hP
  obtain rfl : n0 = t0 := nI_inj (by omega) (by omega) (pn.symm.trans bt0)
  have rE := rEnd_g brX.1
  obtain ⟨u0, u1, u2, u3, -, b1, b2, b3, -, b15, b26, b36, -⟩ := id bI
  have q0 := told_m bA (s := 0) (by decide)
  have q1 := told_m bA (s := 1) (by decide)
  have q3 := told_m bA (s := 3) (by decide)
  have qs := sort_m bA
  have qr := rul_m bA
  have qp := per_m pA
  have qt := trv_m bA pA
  have qd := pdy_m pA
  have qc := con_m hD.1
  have z1 : Pm.2.2.2.2.2.2 = P.2.2.2.2.2.2 := pA.1.symm
  have z2 : Sm.2.2.2.2.2.1 = S.2.2.2.2.2.1 := hS.1.1.symm
  have z3 : Ccm.2.2.2.2.2.2.2 = Cc.2.2.2.2.2.2.2 := hC2.1.1.symm
  have z4 : Rm.2.2.2.2.2.2.2 = R.2.2.2.2.2.2.2 := rA.1.symm
  refine m1_11 hC hL hi ?_
  refine hSt 67 684 3 1 3 _ _ (coL_67 l) dcL_684 (by decide) (by decide) _ _ _ [.int (xs (i + 1)), .int (xs (i + 2))] [] _ _ rfl rfl rfl ⟨_, rfl⟩ (by decide) ?_
  refine ⟨_, _, _, _, _, _, _, _, _, _, _, _, _, _, _, _, _, _, _, _, _, _, _, _, rfl, rfl, pO, ?_⟩
  split
  · next c1 =>
    split
    · next c2 =>
      refine kS hJ.2.2.2.1 ?_
      refine m2_11 hC hL hi ?_
      refine cM hM (coL_71 l) dcL_700 (by decide) (by decide) rfl [.int (xs (i + 1)), .int (xs (i + 2))] [_] hca hsl rfl rfl (by exact Nat.le_of_ble_eq_true rfl) ?_
      refine ⟨_, _, _, _, _, _, _, _, _, _, _, _, _, _, _, _, _, _, _, _, _, _, _, _, _, _, _, _, _, _, rfl, rfl, (pOk_m pA pO), ?_⟩
      rw [if_pos (by simpa only [q0, q1, q3, qs, qr, qp, qt, qd, qc, z1, z2, z3, z4, hD.1] using c1)]
      rw [if_pos (by rw [Bool.and_eq_true] at c1; rw [← (pA.2 _ (per_lt pO c1.1)).1]; exact c2)]
      refine kM ?_
      exact m3_11 hC rfl (k _ _ _ (rw1 (rJ_tr hJ (by decide)) hB hP hS hC2 hY hD) (Nat.le_add_right _ _) (Nat.le_add_right _ _))
    · next c2 =>
      refine kS hJ.2.2.2.1 ?_
      refine m2_11 hC hL hi ?_
      refine cM hM (coL_71 l) dcL_700 (by decide) (by decide) rfl [.int (xs (i + 1)), .int (xs (i + 2))] [_] hca hsl rfl rfl (by exact Nat.le_of_ble_eq_true rfl) ?_
      refine ⟨_, _, _, _, _, _, _, _, _, _, _, _, _, _, _, _, _, _, _, _, _, _, _, _, _, _, _, _, _, _, rfl, rfl, (pOk_m pA pO), ?_⟩
      rw [if_pos (by simpa only [q0, q1, q3, qs, qr, qp, qt, qd, qc, z1, z2, z3, z4, hD.1] using c1)]
      rw [if_neg (by rw [Bool.and_eq_true] at c1; rw [← (pA.2 _ (per_lt pO c1.1)).1]; exact c2)]
      refine kM ?_
      exact m3_11 hC rfl (k _ _ _ (rw1 (rJ_tr hJ (by decide)) hB (by rw [Bool.and_eq_true] at c1; exact rP_move hP c1.1 c1.2) hS hC2 hY hD) (Nat.le_add_right _ _) (Nat.le_add_right _ _))
  · next c1 =>
    refine kS hJ.2.2.2.1 ?_
    refine m2_11 hC hL hi ?_
    refine cM hM (coL_71 l) dcL_700 (by decide) (by decide) rfl [.int (xs (i + 1)), .int (xs (i + 2))] [_] hca hsl rfl rfl (by exact Nat.le_of_ble_eq_true rfl) ?_
    refine ⟨_, _, _, _, _, _, _, _, _, _, _, _, _, _, _, _, _, _, _, _, _, _, _, _, _, _, _, _, _, _, rfl, rfl, (pOk_m pA pO), ?_⟩
    rw [if_neg (by simpa only [q0, q1, q3, qs, qr, qp, qt, qd, qc, z1, z2, z3, z4, hD.1] using c1)]
    refine kM ?_
    exact m3_11 hC rfl (k _ _ _ (rw1 (rJ_tr hJ (by decide)) hB hP hS hC2 hY hD) (Nat.le_add_right _ _) (Nat.le_add_right _ _))
theorem o1_14 (hR : lwR l Ls xs z C) (hL : Ls ≤ 3072) (hi : i + 6 ≤ Ls) (hca : ca ≤ 601024) (hsl : sl ≤ 7293034) (hJ : rJ tl td tr tx rb N wh) (hB : bkR B R L G Bm Rm Lm Gm) (hP : rP B P Pm) (hS : rS S Sm) (hC2 : rC Cc Ccm) (hY : rY Y V) (hD : rD P D Dm) (k : ∀ aw ca' sl', RW aw → ca' ≤ ca + 26 → sl' ≤ sl + 608 → C 23 (LVL (i + 6)) [] aw ca' sl') : C 794 (LVL i) [] ((stripW 0 tl true td tr lf tx rb N B R L G B2 R2 L2 G2 P W S Cc Y D) ++ (oW f ++ sT (modelH (tk 0 5) th tr wh lf tl sz ix so pl nu wd td (-1) (-1) tx Pm Dm ea pa co Sm Ccm V ba Bm Rm Lm Gm sk sp))) ca sl := by
  obtain ⟨hC, hSt, hM, -, -⟩ := hR
  obtain ⟨bA, bN, bI, ⟨t0, bt0, bt8, brX⟩, rA, rO, rI, lA, lU, l24, gA, gO, gG, gI⟩ := id hB
  obtain ⟨⟨n0, pn, pn8, pP⟩, pA, pO, pD⟩ := id hP
  obtain rfl : n0 = t0 := nI_inj (by omega) (by omega) (pn.symm.trans bt0)
  have rE := rEnd_g brX.1
  obtain ⟨u0, u1, u2, u3, -, b1, b2, b3, -, b15, b26, b36, -⟩ := id bI
  have q0 := told_m bA (s := 0) (by decide)
  have q1 := told_m bA (s := 1) (by decide)
  have q3 := told_m bA (s := 3) (by decide)
  have qs := sort_m bA
  have qr := rul_m bA
  have qp := per_m pA
  have qt := trv_m bA pA
  have qd := pdy_m pA
  have qc := con_m hD.1
  have z1 : Pm.2.2.2.2.2.2 = P.2.2.2.2.2.2 := pA.1.symm
  have z2 : Sm.2.2.2.2.2.1 = S.2.2.2.2.2.1 := hS.1.1.symm
  have z3 : Ccm.2.2.2.2.2.2.2 = Cc.2.2.2.2.2.2.2 := hC2.1.1.symm
  have z4 : Rm.2.2.2.2.2.2.2 = R.2.2.2.2.2.2.2 := rA.1.symm
  refine m1_14 hC hL hi ?_
  refine hSt 81 813 4 4 4 _ _ (coL_81 l) dcL_813 (by decide) (by decide) _ _ _ [.int (xs (i + 1)), .int (xs (i + 2)), .int (xs (i + 3))] [] _ _ rfl rfl rfl ⟨_, rfl⟩ (by decide) ?_
  refine ⟨_, _, _, _, _, _, _, _, _, _, _, _, _, _, _, _, _, _, _, _, _, _, _, _, _, rfl, rfl, pO, rO, l24, ?_⟩
  split
  · next c1 =>
    split
    · next c2 =>
      refine kS hJ.2.2.2.1 ?_
      refine m2_14 hC hL hi ?_
      refine cM hM (coL_84 l) dcL_835 (by decide) (by decide) rfl [.int (xs (i + 1)), .int (xs (i + 2)), .int (xs (i + 3))] [_] hca hsl rfl rfl (by exact Nat.le_of_ble_eq_true rfl) ?_
      refine ⟨_, _, _, _, _, _, _, _, _, _, _, _, _, _, _, _, _, _, _, _, _, _, _, _, _, _, _, _, _, _, _, rfl, rfl, (pOk_m pA pO), (rOk_m rA rO), (l24_m lA l24), ?_⟩
      rw [if_pos (by simpa only [q0, q1, q3, qs, qr, qp, qt, qd, qc, z1, z2, z3, z4, hD.1] using c1)]
      rw [if_pos (by simpa only [q0, q1, q3, qs, qr, qp, qt, qd, qc, z1, z2, z3, z4, hD.1] using c2)]
      refine kM ?_
      exact m3_14 hC (by rw [Bool.and_eq_true] at c1; rw [open_m pA lA rA rO brX.2.2.2 (per_lt pO c1.1) (of_decide_eq_true c1.2) (dayB_9 c2)]) (k _ _ _ (rw1 (rJ_tr hJ (by decide)) hB hP hS hC2 hY hD) (Nat.le_add_right _ _) (Nat.le_add_right _ _))
    · next c2 =>
      refine kS hJ.2.2.2.1 ?_
      refine m2_14 hC hL hi ?_
      refine cM hM (coL_84 l) dcL_835 (by decide) (by decide) rfl [.int (xs (i + 1)), .int (xs (i + 2)), .int (xs (i + 3))] [_] hca hsl rfl rfl (by exact Nat.le_of_ble_eq_true rfl) ?_
      refine ⟨_, _, _, _, _, _, _, _, _, _, _, _, _, _, _, _, _, _, _, _, _, _, _, _, _, _, _, _, _, _, _, rfl, rfl, (pOk_m pA pO), (rOk_m rA rO), (l24_m lA l24), ?_⟩
      rw [if_pos (by simpa only [q0, q1, q3, qs, qr, qp, qt, qd, qc, z1, z2, z3, z4, hD.1] using c1)]
      rw [if_neg (by simpa only [q0, q1, q3, qs, qr, qp, qt, qd, qc, z1, z2, z3, z4, hD.1] using c2)]
      refine kM ?_
      exact m3_14 hC rfl (k _ _ _ (rw1 (rJ_tr hJ (by decide)) hB hP hS hC2 hY hD) (Nat.le_add_right _ _) (Nat.le_add_right _ _))
  · next c1 =>
    refine kS hJ.2.2.2.1 ?_
    refine m2_14 hC hL hi ?_
    refine cM hM (coL_84 l) dcL_835 (by decide) (by decide) rfl [.int (xs (i + 1)), .int (xs (i + 2)), .int (xs (i + 3))] [_] hca hsl rfl rfl (by exact Nat.le_of_ble_eq_true rfl) ?_
    refine ⟨_, _, _, _, _, _, _, _, _, _, _, _, _, _, _, _, _, _, _, _, _, _, _, _, _, _, _, _, _, _, _, rfl, rfl, (pOk_m pA pO), (rOk_m rA rO), (l24_m lA l24), ?_⟩
    rw [if_neg (by simpa only [q0, q1, q3, qs, qr, qp, qt, qd, qc, z1, z2, z3, z4, hD.1] using c1)]
    refine kM ?_
    exact m3_14 hC rfl (k _ _ _ (rw1 (rJ_tr hJ (by decide)) hB hP hS hC2 hY hD) (Nat.le_add_right _ _) (Nat.le_add_right _ _))
theorem o1_19 (hR : lwR l Ls xs z C) (hL : Ls ≤ 3072) (hi : i + 6 ≤ Ls) (hca : ca ≤ 601024) (hsl : sl ≤ 7293034) (hJ : rJ tl td tr tx rb N wh) (hB : bkR B R L G Bm Rm Lm Gm) (hP : rP B P Pm) (hS : rS S Sm) (hC2 : rC Cc Ccm) (hY : rY Y V) (hD : rD P D Dm) (k : ∀ aw ca' sl', RW aw → ca' ≤ ca + 26 → sl' ≤ sl + 608 → C 23 (LVL (i + 6)) [] aw ca' sl') : C 1015 (LVL i) [] ((stripW 0 tl true td tr lf tx rb N B R L G B2 R2 L2 G2 P W S Cc Y D) ++ (oW f ++ sT (modelH (tk 0 5) th tr wh lf tl sz ix so pl nu wd td (-1) (-1) tx Pm Dm ea pa co Sm Ccm V ba Bm Rm Lm Gm sk sp))) ca sl := by
  obtain ⟨hC, hSt, hM, -, -⟩ := hR
  obtain ⟨bA, bN, bI, ⟨t0, bt0, bt8, brX⟩, rA, rO, rI, lA, lU, l24, gA, gO, gG, gI⟩ := id hB
  obtain ⟨⟨n0, pn, pn8, pP⟩, pA, pO, pD⟩ := id hP
  obtain rfl : n0 = t0 := nI_inj (by omega) (by omega) (pn.symm.trans bt0)
  have rE := rEnd_g brX.1
  obtain ⟨u0, u1, u2, u3, -, b1, b2, b3, -, b15, b26, b36, -⟩ := id bI
  have q0 := told_m bA (s := 0) (by decide)
  have q1 := told_m bA (s := 1) (by decide)
  have q3 := told_m bA (s := 3) (by decide)
  have qs := sort_m bA
  have qr := rul_m bA
  have qp := per_m pA
  have qt := trv_m bA pA
  have qd := pdy_m pA
  have qc := con_m hD.1
  have z1 : Pm.2.2.2.2.2.2 = P.2.2.2.2.2.2 := pA.1.symm
  have z2 : Sm.2.2.2.2.2.1 = S.2.2.2.2.2.1 := hS.1.1.symm
  have z3 : Ccm.2.2.2.2.2.2.2 = Cc.2.2.2.2.2.2.2 := hC2.1.1.symm
  have z4 : Rm.2.2.2.2.2.2.2 = R.2.2.2.2.2.2.2 := rA.1.symm
  refine m1_19 hC hL hi ?_
  refine hSt 101 1034 4 2 4 _ _ (coL_101 l) dcL_1034 (by decide) (by decide) _ _ _ [.int (xs (i + 1)), .int (xs (i + 2)), .int (xs (i + 3))] [] _ _ rfl rfl rfl ⟨_, rfl⟩ (by decide) ?_
  refine ⟨_, _, _, _, _, _, _, _, _, _, _, _, _, _, _, _, _, _, _, _, _, _, _, _, _, rfl, rfl, hS.2.1, ?_⟩
  split
  · next c1 =>
    split
    · next c2 =>
      refine kS hJ.2.2.2.1 ?_
      refine m2_19 hC hL hi ?_
      refine cM hM (coL_104 l) dcL_1056 (by decide) (by decide) rfl [.int (xs (i + 1)), .int (xs (i + 2)), .int (xs (i + 3))] [_] hca hsl rfl rfl (by exact Nat.le_of_ble_eq_true rfl) ?_
      refine ⟨_, _, _, _, _, _, _, _, _, _, _, _, _, _, _, _, _, _, _, _, _, _, _, _, _, _, _, _, _, _, _, rfl, rfl, (by rw [← hS.1.1]; exact hS.2.1), ?_⟩
      rw [if_pos (by simpa only [q0, q1, q3, qs, qr, qp, qt, qd, qc, z1, z2, z3, z4, hD.1] using c1)]
      rw [if_pos (by simpa only [q0, q1, q3, qs, qr, qp, qt, qd, qc, z1, z2, z3, z4, hD.1] using c2)]
      refine kM ?_
      exact m3_19 hC rfl (k _ _ _ (rw1 (rJ_tr hJ (by decide)) hB hP hS hC2 hY hD) (Nat.le_add_right _ _) (Nat.le_add_right _ _))
    · next c2 =>
      split
      · next c3 =>
        refine kS hJ.2.2.2.1 ?_
        refine m2_19 hC hL hi ?_
        refine cM hM (coL_104 l) dcL_1056 (by decide) (by decide) rfl [.int (xs (i + 1)), .int (xs (i + 2)), .int (xs (i + 3))] [_] hca hsl rfl rfl (by exact Nat.le_of_ble_eq_true rfl) ?_
        refine ⟨_, _, _, _, _, _, _, _, _, _, _, _, _, _, _, _, _, _, _, _, _, _, _, _, _, _, _, _, _, _, _, rfl, rfl, (by rw [← hS.1.1]; exact hS.2.1), ?_⟩
        rw [if_pos (by simpa only [q0, q1, q3, qs, qr, qp, qt, qd, qc, z1, z2, z3, z4, hD.1] using c1)]
        rw [if_neg (by simpa only [q0, q1, q3, qs, qr, qp, qt, qd, qc, z1, z2, z3, z4, hD.1] using c2)]
        rw [if_pos (by simpa only [q0, q1, q3, qs, qr, qp, qt, qd, qc, z1, z2, z3, z4, hD.1] using c3)]
        refine kM ?_
        exact m3_19 hC (by rw [z2]) (k _ _ _ (rw1 (rJ_tr hJ (by decide)) hB hP (rS_add hS c3 c2) hC2 hY hD) (Nat.le_add_right _ _) (Nat.le_add_right _ _))
      · next c3 =>
        refine kS hJ.2.2.2.1 ?_
        refine m2_19 hC hL hi ?_
        refine cM hM (coL_104 l) dcL_1056 (by decide) (by decide) rfl [.int (xs (i + 1)), .int (xs (i + 2)), .int (xs (i + 3))] [_] hca hsl rfl rfl (by exact Nat.le_of_ble_eq_true rfl) ?_
        refine ⟨_, _, _, _, _, _, _, _, _, _, _, _, _, _, _, _, _, _, _, _, _, _, _, _, _, _, _, _, _, _, _, rfl, rfl, (by rw [← hS.1.1]; exact hS.2.1), ?_⟩
        rw [if_pos (by simpa only [q0, q1, q3, qs, qr, qp, qt, qd, qc, z1, z2, z3, z4, hD.1] using c1)]
        rw [if_neg (by simpa only [q0, q1, q3, qs, qr, qp, qt, qd, qc, z1, z2, z3, z4, hD.1] using c2)]
        rw [if_neg (by simpa only [q0, q1, q3, qs, qr, qp, qt, qd, qc, z1, z2, z3, z4, hD.1] using c3)]
        refine kM ?_
        exact m3_19 hC rfl (k _ _ _ (rw1 (rJ_tr hJ (by decide)) hB hP hS hC2 hY hD) (Nat.le_add_right _ _) (Nat.le_add_right _ _))
  · next c1 =>
    refine kS hJ.2.2.2.1 ?_
    refine m2_19 hC hL hi ?_
    refine cM hM (coL_104 l) dcL_1056 (by decide) (by decide) rfl [.int (xs (i + 1)), .int (xs (i + 2)), .int (xs (i + 3))] [_] hca hsl rfl rfl (by exact Nat.le_of_ble_eq_true rfl) ?_
    refine ⟨_, _, _, _, _, _, _, _, _, _, _, _, _, _, _, _, _, _, _, _, _, _, _, _, _, _, _, _, _, _, _, rfl, rfl, (by rw [← hS.1.1]; exact hS.2.1), ?_⟩
    rw [if_neg (by simpa only [q0, q1, q3, qs, qr, qp, qt, qd, qc, z1, z2, z3, z4, hD.1] using c1)]
    refine kM ?_
    exact m3_19 hC rfl (k _ _ _ (rw1 (rJ_tr hJ (by decide)) hB hP hS hC2 hY hD) (Nat.le_add_right _ _) (Nat.le_add_right _ _))
theorem o1_23 (hR : lwR l Ls xs z C) (hL : Ls ≤ 3072) (hi : i + 6 ≤ Ls) (hca : ca ≤ 601024) (hsl : sl ≤ 7293034) (hJ : rJ tl td tr tx rb N wh) (hB : bkR B R L G Bm Rm Lm Gm) (hP : rP B P Pm) (hS : rS S Sm) (hC2 : rC Cc Ccm) (hY : rY Y V) (hD : rD P D Dm) (k : ∀ aw ca' sl', RW aw → ca' ≤ ca + 26 → sl' ≤ sl + 608 → C 23 (LVL (i + 6)) [] aw ca' sl') : C 1151 (LVL i) [] ((stripW 0 tl true td tr lf tx rb N B R L G B2 R2 L2 G2 P W S Cc Y D) ++ (oW f ++ sT (modelH (tk 0 5) th tr wh lf tl sz ix so pl nu wd td (-1) (-1) tx Pm Dm ea pa co Sm Ccm V ba Bm Rm Lm Gm sk sp))) ca sl := by
  obtain ⟨hC, hSt, hM, -, -⟩ := hR
  obtain ⟨bA, bN, bI, ⟨t0, bt0, bt8, brX⟩, rA, rO, rI, lA, lU, l24, gA, gO, gG, gI⟩ := id hB
  obtain ⟨⟨n0, pn, pn8, pP⟩, pA, pO, pD⟩ := id hP
  obtain rfl : n0 = t0 := nI_inj (by omega) (by omega) (pn.symm.trans bt0)
  have rE := rEnd_g brX.1
  obtain ⟨u0, u1, u2, u3, -, b1, b2, b3, -, b15, b26, b36, -⟩ := id bI
  have q0 := told_m bA (s := 0) (by decide)
  have q1 := told_m bA (s := 1) (by decide)
  have q3 := told_m bA (s := 3) (by decide)
  have qs := sort_m bA
  have qr := rul_m bA
  have qp := per_m pA
  have qt := trv_m bA pA
  have qd := pdy_m pA
  have qc := con_m hD.1
  have z1 : Pm.2.2.2.2.2.2 = P.2.2.2.2.2.2 := pA.1.symm
  have z2 : Sm.2.2.2.2.2.1 = S.2.2.2.2.2.1 := hS.1.1.symm
  have z3 : Ccm.2.2.2.2.2.2.2 = Cc.2.2.2.2.2.2.2 := hC2.1.1.symm
  have z4 : Rm.2.2.2.2.2.2.2 = R.2.2.2.2.2.2.2 := rA.1.symm
  refine m1_23 hC hL hi ?_
  refine hSt 117 1182 6 2 6 _ _ (coL_117 l) dcL_1182 (by decide) (by decide) _ _ _ [.int (xs (i + 1)), .int (xs (i + 2)), .int (xs (i + 3)), .int (xs (i + 4)), .int (xs (i + 5))] [] _ _ rfl rfl rfl ⟨_, rfl⟩ (by decide) ?_
  refine ⟨_, _, _, _, _, _, _, _, _, _, _, _, _, _, _, _, _, _, _, _, _, _, _, _, _, _, _, rfl, rfl, hC2.2, ?_⟩
  split
  · next c1 =>
    split
    · next c2 =>
      split
      · next c3 =>
        refine kS hJ.2.2.2.1 ?_
        refine m2_23 hC hL hi ?_
        refine cM hM (coL_120 l) dcL_1216 (by decide) (by decide) rfl [.int (xs (i + 1)), .int (xs (i + 2)), .int (xs (i + 3)), .int (xs (i + 4)), .int (xs (i + 5))] [_] hca hsl rfl rfl (by exact Nat.le_of_ble_eq_true rfl) ?_
        refine ⟨_, _, _, _, _, _, _, _, _, _, _, _, _, _, _, _, _, _, _, _, _, _, _, _, _, _, _, _, _, _, _, _, _, rfl, rfl, (by rw [← hC2.1.1]; exact hC2.2), ?_⟩
        rw [if_pos (by simpa only [q0, q1, q3, qs, qr, qp, qt, qd, qc, z1, z2, z3, z4, hD.1] using c1)]
        rw [if_pos (by simpa only [q0, q1, q3, qs, qr, qp, qt, qd, qc, z1, z2, z3, z4, hD.1] using c2)]
        rw [if_pos (by simpa only [q0, q1, q3, qs, qr, qp, qt, qd, qc, z1, z2, z3, z4, hD.1] using c3)]
        refine kM ?_
        exact m3_23 hC (by rw [z3]) (k _ _ _ (rw1 (rJ_tr hJ (by decide)) hB hP hS (rC_add hC2 c3) hY hD) (Nat.le_add_right _ _) (Nat.le_add_right _ _))
      · next c3 =>
        refine kS hJ.2.2.2.1 ?_
        refine m2_23 hC hL hi ?_
        refine cM hM (coL_120 l) dcL_1216 (by decide) (by decide) rfl [.int (xs (i + 1)), .int (xs (i + 2)), .int (xs (i + 3)), .int (xs (i + 4)), .int (xs (i + 5))] [_] hca hsl rfl rfl (by exact Nat.le_of_ble_eq_true rfl) ?_
        refine ⟨_, _, _, _, _, _, _, _, _, _, _, _, _, _, _, _, _, _, _, _, _, _, _, _, _, _, _, _, _, _, _, _, _, rfl, rfl, (by rw [← hC2.1.1]; exact hC2.2), ?_⟩
        rw [if_pos (by simpa only [q0, q1, q3, qs, qr, qp, qt, qd, qc, z1, z2, z3, z4, hD.1] using c1)]
        rw [if_pos (by simpa only [q0, q1, q3, qs, qr, qp, qt, qd, qc, z1, z2, z3, z4, hD.1] using c2)]
        rw [if_neg (by simpa only [q0, q1, q3, qs, qr, qp, qt, qd, qc, z1, z2, z3, z4, hD.1] using c3)]
        refine kM ?_
        exact m3_23 hC rfl (k _ _ _ (rw1 (rJ_tr hJ (by decide)) hB hP hS hC2 hY hD) (Nat.le_add_right _ _) (Nat.le_add_right _ _))
    · next c2 =>
      refine kS hJ.2.2.2.1 ?_
      refine m2_23 hC hL hi ?_
      refine cM hM (coL_120 l) dcL_1216 (by decide) (by decide) rfl [.int (xs (i + 1)), .int (xs (i + 2)), .int (xs (i + 3)), .int (xs (i + 4)), .int (xs (i + 5))] [_] hca hsl rfl rfl (by exact Nat.le_of_ble_eq_true rfl) ?_
      refine ⟨_, _, _, _, _, _, _, _, _, _, _, _, _, _, _, _, _, _, _, _, _, _, _, _, _, _, _, _, _, _, _, _, _, rfl, rfl, (by rw [← hC2.1.1]; exact hC2.2), ?_⟩
      rw [if_pos (by simpa only [q0, q1, q3, qs, qr, qp, qt, qd, qc, z1, z2, z3, z4, hD.1] using c1)]
      rw [if_neg (by simpa only [q0, q1, q3, qs, qr, qp, qt, qd, qc, z1, z2, z3, z4, hD.1] using c2)]
      refine kM ?_
      exact m3_23 hC rfl (k _ _ _ (rw1 (rJ_tr hJ (by decide)) hB hP hS hC2 hY hD) (Nat.le_add_right _ _) (Nat.le_add_right _ _))
  · next c1 =>
    refine kS hJ.2.2.2.1 ?_
    refine m2_23 hC hL hi ?_
    refine cM hM (coL_120 l) dcL_1216 (by decide) (by decide) rfl [.int (xs (i + 1)), .int (xs (i + 2)), .int (xs (i + 3)), .int (xs (i + 4)), .int (xs (i + 5))] [_] hca hsl rfl rfl (by exact Nat.le_of_ble_eq_true rfl) ?_
    refine ⟨_, _, _, _, _, _, _, _, _, _, _, _, _, _, _, _, _, _, _, _, _, _, _, _, _, _, _, _, _, _, _, _, _, rfl, rfl, (by rw [← hC2.1.1]; exact hC2.2), ?_⟩
    rw [if_neg (by simpa only [q0, q1, q3, qs, qr, qp, qt, qd, qc, z1, z2, z3, z4, hD.1] using c1)]
    refine kM ?_
    exact m3_23 hC rfl (k _ _ _ (rw1 (rJ_tr hJ (by decide)) hB hP hS hC2 hY hD) (Nat.le_add_right _ _) (Nat.le_add_right _ _))
theorem o1_30 (hR : lwR l Ls xs z C) (hL : Ls ≤ 3072) (hi : i + 6 ≤ Ls) (hca : ca ≤ 601024) (hsl : sl ≤ 7293034) (hJ : rJ tl td tr tx rb N wh) (hB : bkR B R L G Bm Rm Lm Gm) (hP : rP B P Pm) (hS : rS S Sm) (hC2 : rC Cc Ccm) (hY : rY Y V) (hD : rD P D Dm) (k : ∀ aw ca' sl', RW aw → ca' ≤ ca + 26 → sl' ≤ sl + 608 → C 23 (LVL (i + 6)) [] aw ca' sl') : C 1446 (LVL i) [] ((stripW 0 tl true td tr lf tx rb N B R L G B2 R2 L2 G2 P W S Cc Y D) ++ (oW f ++ sT (modelH (tk 0 5) th tr wh lf tl sz ix so pl nu wd td (-1) (-1) tx Pm Dm ea pa co Sm Ccm V ba Bm Rm Lm Gm sk sp))) ca sl := by
  obtain ⟨hC, hSt, hM, -, -⟩ := hR
  obtain ⟨bA, bN, bI, ⟨t0, bt0, bt8, brX⟩, rA, rO, rI, lA, lU, l24, gA, gO, gG, gI⟩ := id hB
  obtain ⟨⟨n0, pn, pn8, pP⟩, pA, pO, pD⟩ := id hP
  obtain rfl : n0 = t0 := nI_inj (by omega) (by omega) (pn.symm.trans bt0)
  have rE := rEnd_g brX.1
  obtain ⟨u0, u1, u2, u3, -, b1, b2, b3, -, b15, b26, b36, -⟩ := id bI
  have q0 := told_m bA (s := 0) (by decide)
  have q1 := told_m bA (s := 1) (by decide)
  have q3 := told_m bA (s := 3) (by decide)
  have qs := sort_m bA
  have qr := rul_m bA
  have qp := per_m pA
  have qt := trv_m bA pA
  have qd := pdy_m pA
  have qc := con_m hD.1
  have z1 : Pm.2.2.2.2.2.2 = P.2.2.2.2.2.2 := pA.1.symm
  have z2 : Sm.2.2.2.2.2.1 = S.2.2.2.2.2.1 := hS.1.1.symm
  have z3 : Ccm.2.2.2.2.2.2.2 = Cc.2.2.2.2.2.2.2 := hC2.1.1.symm
  have z4 : Rm.2.2.2.2.2.2.2 = R.2.2.2.2.2.2.2 := rA.1.symm
  refine m1_30 hC hL hi ?_
  refine hSt 145 1459 3 1 3 _ _ (coL_145 l) dcL_1459 (by decide) (by decide) _ _ _ [.int (xs (i + 1)), .int (xs (i + 2))] [] _ _ rfl rfl rfl ⟨_, rfl⟩ (by decide) ?_
  refine ⟨_, _, _, _, _, _, _, _, _, _, _, _, _, _, _, _, _, _, _, _, _, _, _, _, rfl, rfl, hD.2.1.1, ?_⟩
  split
  · next c1 =>
    split
    · next c2 =>
      refine kS hJ.2.2.2.1 ?_
      refine m2_30 hC hL hi ?_
      refine cM hM (coL_148 l) dcL_1475 (by decide) (by decide) rfl [.int (xs (i + 1)), .int (xs (i + 2))] [_] hca hsl rfl rfl (by exact Nat.le_of_ble_eq_true rfl) ?_
      refine ⟨_, _, _, _, _, _, _, _, _, _, _, _, _, _, _, _, _, _, _, _, _, _, _, _, _, _, _, _, _, _, rfl, rfl, (by rw [hD.1]; exact hD.2.1.1), ?_⟩
      rw [if_pos (by simpa only [q0, q1, q3, qs, qr, qp, qt, qd, qc, z1, z2, z3, z4, hD.1] using c1)]
      rw [if_pos (by simpa only [q0, q1, q3, qs, qr, qp, qt, qd, qc, z1, z2, z3, z4, hD.1] using c2)]
      refine kM ?_
      exact m3_30 hC rfl (k _ _ _ (rw1 (rJ_tr hJ (by decide)) hB hP hS hC2 hY hD) (Nat.le_add_right _ _) (Nat.le_add_right _ _))
    · next c2 =>
      split
      · next c3 =>
        refine kS hJ.2.2.2.1 ?_
        refine m2_30 hC hL hi ?_
        refine cM hM (coL_148 l) dcL_1475 (by decide) (by decide) rfl [.int (xs (i + 1)), .int (xs (i + 2))] [_] hca hsl rfl rfl (by exact Nat.le_of_ble_eq_true rfl) ?_
        refine ⟨_, _, _, _, _, _, _, _, _, _, _, _, _, _, _, _, _, _, _, _, _, _, _, _, _, _, _, _, _, _, rfl, rfl, (by rw [hD.1]; exact hD.2.1.1), ?_⟩
        rw [if_pos (by simpa only [q0, q1, q3, qs, qr, qp, qt, qd, qc, z1, z2, z3, z4, hD.1] using c1)]
        rw [if_neg (by simpa only [q0, q1, q3, qs, qr, qp, qt, qd, qc, z1, z2, z3, z4, hD.1] using c2)]
        rw [if_pos (by simpa only [q0, q1, q3, qs, qr, qp, qt, qd, qc, z1, z2, z3, z4, hD.1] using c3)]
        refine kM ?_
        exact m3_30 hC (by rw [hD.1]) (k _ _ _ (rw1 (rJ_tr hJ (by decide)) hB hP hS hC2 hY (rD_con hD pO c1 c3)) (Nat.le_add_right _ _) (Nat.le_add_right _ _))
      · next c3 =>
        refine kS hJ.2.2.2.1 ?_
        refine m2_30 hC hL hi ?_
        refine cM hM (coL_148 l) dcL_1475 (by decide) (by decide) rfl [.int (xs (i + 1)), .int (xs (i + 2))] [_] hca hsl rfl rfl (by exact Nat.le_of_ble_eq_true rfl) ?_
        refine ⟨_, _, _, _, _, _, _, _, _, _, _, _, _, _, _, _, _, _, _, _, _, _, _, _, _, _, _, _, _, _, rfl, rfl, (by rw [hD.1]; exact hD.2.1.1), ?_⟩
        rw [if_pos (by simpa only [q0, q1, q3, qs, qr, qp, qt, qd, qc, z1, z2, z3, z4, hD.1] using c1)]
        rw [if_neg (by simpa only [q0, q1, q3, qs, qr, qp, qt, qd, qc, z1, z2, z3, z4, hD.1] using c2)]
        rw [if_neg (by simpa only [q0, q1, q3, qs, qr, qp, qt, qd, qc, z1, z2, z3, z4, hD.1] using c3)]
        refine kM ?_
        exact m3_30 hC rfl (k _ _ _ (rw1 (rJ_tr hJ (by decide)) hB hP hS hC2 hY hD) (Nat.le_add_right _ _) (Nat.le_add_right _ _))
  · next c1 =>
    refine kS hJ.2.2.2.1 ?_
    refine m2_30 hC hL hi ?_
    refine cM hM (coL_148 l) dcL_1475 (by decide) (by decide) rfl [.int (xs (i + 1)), .int (xs (i + 2))] [_] hca hsl rfl rfl (by exact Nat.le_of_ble_eq_true rfl) ?_
    refine ⟨_, _, _, _, _, _, _, _, _, _, _, _, _, _, _, _, _, _, _, _, _, _, _, _, _, _, _, _, _, _, rfl, rfl, (by rw [hD.1]; exact hD.2.1.1), ?_⟩
    rw [if_neg (by simpa only [q0, q1, q3, qs, qr, qp, qt, qd, qc, z1, z2, z3, z4, hD.1] using c1)]
    refine kM ?_
    exact m3_30 hC rfl (k _ _ _ (rw1 (rJ_tr hJ (by decide)) hB hP hS hC2 hY hD) (Nat.le_add_right _ _) (Nat.le_add_right _ _))
theorem o1_31 (hR : lwR l Ls xs z C) (hL : Ls ≤ 3072) (hi : i + 6 ≤ Ls) (hca : ca ≤ 601024) (hsl : sl ≤ 7293034) (hJ : rJ tl td tr tx rb N wh) (hB : bkR B R L G Bm Rm Lm Gm) (hP : rP B P Pm) (hS : rS S Sm) (hC2 : rC Cc Ccm) (hY : rY Y V) (hD : rD P D Dm) (k : ∀ aw ca' sl', RW aw → ca' ≤ ca + 26 → sl' ≤ sl + 608 → C 23 (LVL (i + 6)) [] aw ca' sl') : C 1483 (LVL i) [] ((stripW 0 tl true td tr lf tx rb N B R L G B2 R2 L2 G2 P W S Cc Y D) ++ (oW f ++ sT (modelH (tk 0 5) th tr wh lf tl sz ix so pl nu wd td (-1) (-1) tx Pm Dm ea pa co Sm Ccm V ba Bm Rm Lm Gm sk sp))) ca sl := by
  obtain ⟨hC, hSt, hM, -, -⟩ := hR
  obtain ⟨bA, bN, bI, ⟨t0, bt0, bt8, brX⟩, rA, rO, rI, lA, lU, l24, gA, gO, gG, gI⟩ := id hB
  obtain ⟨⟨n0, pn, pn8, pP⟩, pA, pO, pD⟩ := id hP
  obtain rfl : n0 = t0 := nI_inj (by omega) (by omega) (pn.symm.trans bt0)
  have rE := rEnd_g brX.1
  obtain ⟨u0, u1, u2, u3, -, b1, b2, b3, -, b15, b26, b36, -⟩ := id bI
  have q0 := told_m bA (s := 0) (by decide)
  have q1 := told_m bA (s := 1) (by decide)
  have q3 := told_m bA (s := 3) (by decide)
  have qs := sort_m bA
  have qr := rul_m bA
  have qp := per_m pA
  have qt := trv_m bA pA
  have qd := pdy_m pA
  have qc := con_m hD.1
  have z1 : Pm.2.2.2.2.2.2 = P.2.2.2.2.2.2 := pA.1.symm
  have z2 : Sm.2.2.2.2.2.1 = S.2.2.2.2.2.1 := hS.1.1.symm
  have z3 : Ccm.2.2.2.2.2.2.2 = Cc.2.2.2.2.2.2.2 := hC2.1.1.symm
  have z4 : Rm.2.2.2.2.2.2.2 = R.2.2.2.2.2.2.2 := rA.1.symm
  refine m1_31 hC hL hi ?_
  refine hSt 149 1496 3 1 3 _ _ (coL_149 l) dcL_1496 (by decide) (by decide) _ _ _ [.int (xs (i + 1)), .int (xs (i + 2))] [] _ _ rfl rfl rfl ⟨_, rfl⟩ (by decide) ?_
  refine ⟨_, _, _, _, _, _, _, _, _, _, _, _, _, _, _, _, _, _, _, _, _, _, _, _, rfl, rfl, (dNm_30 pO.1 hD.2.1), ?_⟩
  split
  · next c1 =>
    split
    · next c2 =>
      refine kSl hJ.2.2.2.1 ?_
      refine m2_31 hC hL hi ?_
      refine cM hM (coL_153 l) dcL_1512 (by decide) (by decide) rfl [.int (xs (i + 1)), .int (xs (i + 2))] [_] hca hsl rfl rfl (by exact Nat.le_of_ble_eq_true rfl) ?_
      refine ⟨_, _, _, _, _, _, _, _, _, _, _, _, _, _, _, _, _, _, _, _, _, _, _, _, _, _, _, _, _, _, rfl, rfl, (dNm_30 pO.1 (dNm_m hD.1 hD.2.2.1 hD.2.1)), ?_⟩
      rw [if_pos (by simpa only [q0, q1, q3, qs, qr, qp, qt, qd, qc, z1, z2, z3, z4, hD.1] using c1)]
      rw [if_pos (by simpa only [q0, q1, q3, qs, qr, qp, qt, qd, qc, z1, z2, z3, z4, hD.1] using c2)]
      refine kMl ?_
      exact m3_31 hC rfl (k _ _ _ (rw1 (rJ_tr hJ (by decide)) hB hP hS hC2 hY hD) (Nat.le_add_right _ _) (Nat.le_add_right _ _))
    · next c2 =>
      refine kSl hJ.2.2.2.1 ?_
      refine m2_31 hC hL hi ?_
      refine cM hM (coL_153 l) dcL_1512 (by decide) (by decide) rfl [.int (xs (i + 1)), .int (xs (i + 2))] [_] hca hsl rfl rfl (by exact Nat.le_of_ble_eq_true rfl) ?_
      refine ⟨_, _, _, _, _, _, _, _, _, _, _, _, _, _, _, _, _, _, _, _, _, _, _, _, _, _, _, _, _, _, rfl, rfl, (dNm_30 pO.1 (dNm_m hD.1 hD.2.2.1 hD.2.1)), ?_⟩
      rw [if_pos (by simpa only [q0, q1, q3, qs, qr, qp, qt, qd, qc, z1, z2, z3, z4, hD.1] using c1)]
      rw [if_neg (by simpa only [q0, q1, q3, qs, qr, qp, qt, qd, qc, z1, z2, z3, z4, hD.1] using c2)]
      refine kMl ?_
      exact m3_31 hC (deb_m hD pO c1).1.symm (k _ _ _ (rw1 (rJ_tr hJ (by decide)) hB hP hS hC2 hY (by rw [(deb_m (u := 0) hD pO c1).2.1, (deb_m hD pO c1).1]; exact rD_burn hD (deb_m (u := 0) hD pO c1).2.2)) (Nat.le_add_right _ _) (Nat.le_add_right _ _))
  · next c1 =>
    refine kSl hJ.2.2.2.1 ?_
    refine m2_31 hC hL hi ?_
    refine cM hM (coL_153 l) dcL_1512 (by decide) (by decide) rfl [.int (xs (i + 1)), .int (xs (i + 2))] [_] hca hsl rfl rfl (by exact Nat.le_of_ble_eq_true rfl) ?_
    refine ⟨_, _, _, _, _, _, _, _, _, _, _, _, _, _, _, _, _, _, _, _, _, _, _, _, _, _, _, _, _, _, rfl, rfl, (dNm_30 pO.1 (dNm_m hD.1 hD.2.2.1 hD.2.1)), ?_⟩
    rw [if_neg (by simpa only [q0, q1, q3, qs, qr, qp, qt, qd, qc, z1, z2, z3, z4, hD.1] using c1)]
    refine kMl ?_
    exact m3_31 hC rfl (k _ _ _ (rw1 (rJ_tr hJ (by decide)) hB hP hS hC2 hY hD) (Nat.le_add_right _ _) (Nat.le_add_right _ _))
theorem o1_32 (hR : lwR l Ls xs z C) (hL : Ls ≤ 3072) (hi : i + 6 ≤ Ls) (hca : ca ≤ 601024) (hsl : sl ≤ 7293034) (hJ : rJ tl td tr tx rb N wh) (hB : bkR B R L G Bm Rm Lm Gm) (hP : rP B P Pm) (hS : rS S Sm) (hC2 : rC Cc Ccm) (hY : rY Y V) (hD : rD P D Dm) (k : ∀ aw ca' sl', RW aw → ca' ≤ ca + 26 → sl' ≤ sl + 608 → C 23 (LVL (i + 6)) [] aw ca' sl') : C 1521 (LVL i) [] ((stripW 0 tl true td tr lf tx rb N B R L G B2 R2 L2 G2 P W S Cc Y D) ++ (oW f ++ sT (modelH (tk 0 5) th tr wh lf tl sz ix so pl nu wd td (-1) (-1) tx Pm Dm ea pa co Sm Ccm V ba Bm Rm Lm Gm sk sp))) ca sl := by
  obtain ⟨hC, hSt, hM, -, -⟩ := hR
  obtain ⟨bA, bN, bI, ⟨t0, bt0, bt8, brX⟩, rA, rO, rI, lA, lU, l24, gA, gO, gG, gI⟩ := id hB
  obtain ⟨⟨n0, pn, pn8, pP⟩, pA, pO, pD⟩ := id hP
  obtain rfl : n0 = t0 := nI_inj (by omega) (by omega) (pn.symm.trans bt0)
  have rE := rEnd_g brX.1
  obtain ⟨u0, u1, u2, u3, -, b1, b2, b3, -, b15, b26, b36, -⟩ := id bI
  have q0 := told_m bA (s := 0) (by decide)
  have q1 := told_m bA (s := 1) (by decide)
  have q3 := told_m bA (s := 3) (by decide)
  have qs := sort_m bA
  have qr := rul_m bA
  have qp := per_m pA
  have qt := trv_m bA pA
  have qd := pdy_m pA
  have qc := con_m hD.1
  have z1 : Pm.2.2.2.2.2.2 = P.2.2.2.2.2.2 := pA.1.symm
  have z2 : Sm.2.2.2.2.2.1 = S.2.2.2.2.2.1 := hS.1.1.symm
  have z3 : Ccm.2.2.2.2.2.2.2 = Cc.2.2.2.2.2.2.2 := hC2.1.1.symm
  have z4 : Rm.2.2.2.2.2.2.2 = R.2.2.2.2.2.2.2 := rA.1.symm
  refine m1_32 hC hL hi ?_
  refine hSt 154 1534 3 1 3 _ _ (coL_154 l) dcL_1534 (by decide) (by decide) _ _ _ [.int (xs (i + 1)), .int (xs (i + 2))] [] _ _ rfl rfl rfl ⟨_, rfl⟩ (by decide) ?_
  refine ⟨_, _, _, _, _, _, _, _, _, _, _, _, _, _, _, _, _, _, _, _, _, _, _, _, rfl, rfl, hD.2.1.1, ?_⟩
  split
  · next c1 =>
    split
    · next c2 =>
      refine kS hJ.2.2.2.1 ?_
      refine m2_32 hC hL hi ?_
      refine cM hM (coL_157 l) dcL_1550 (by decide) (by decide) rfl [.int (xs (i + 1)), .int (xs (i + 2))] [_] hca hsl rfl rfl (by exact Nat.le_of_ble_eq_true rfl) ?_
      refine ⟨_, _, _, _, _, _, _, _, _, _, _, _, _, _, _, _, _, _, _, _, _, _, _, _, _, _, _, _, _, _, rfl, rfl, (by rw [hD.1]; exact hD.2.1.1), ?_⟩
      rw [if_pos (by simpa only [q0, q1, q3, qs, qr, qp, qt, qd, qc, z1, z2, z3, z4, hD.1] using c1)]
      rw [if_pos (by rw [Bool.and_eq_true] at c1; rw [(hD.2.2.1 _ (con_lt hD.2.1 c1.1)).1]; exact c2)]
      refine kM ?_
      exact m3_32 hC rfl (k _ _ _ (rw1 (rJ_tr hJ (by decide)) hB hP hS hC2 hY hD) (Nat.le_add_right _ _) (Nat.le_add_right _ _))
    · next c2 =>
      refine kS hJ.2.2.2.1 ?_
      refine m2_32 hC hL hi ?_
      refine cM hM (coL_157 l) dcL_1550 (by decide) (by decide) rfl [.int (xs (i + 1)), .int (xs (i + 2))] [_] hca hsl rfl rfl (by exact Nat.le_of_ble_eq_true rfl) ?_
      refine ⟨_, _, _, _, _, _, _, _, _, _, _, _, _, _, _, _, _, _, _, _, _, _, _, _, _, _, _, _, _, _, rfl, rfl, (by rw [hD.1]; exact hD.2.1.1), ?_⟩
      rw [if_pos (by simpa only [q0, q1, q3, qs, qr, qp, qt, qd, qc, z1, z2, z3, z4, hD.1] using c1)]
      rw [if_neg (by rw [Bool.and_eq_true] at c1; rw [(hD.2.2.1 _ (con_lt hD.2.1 c1.1)).1]; exact c2)]
      refine kM ?_
      exact m3_32 hC rfl (k _ _ _ (rw1 (rJ_tr hJ (by decide)) hB hP hS hC2 hY (by rw [Bool.and_eq_true] at c1; exact rD_ren hD pO c1.2)) (Nat.le_add_right _ _) (Nat.le_add_right _ _))
  · next c1 =>
    refine kS hJ.2.2.2.1 ?_
    refine m2_32 hC hL hi ?_
    refine cM hM (coL_157 l) dcL_1550 (by decide) (by decide) rfl [.int (xs (i + 1)), .int (xs (i + 2))] [_] hca hsl rfl rfl (by exact Nat.le_of_ble_eq_true rfl) ?_
    refine ⟨_, _, _, _, _, _, _, _, _, _, _, _, _, _, _, _, _, _, _, _, _, _, _, _, _, _, _, _, _, _, rfl, rfl, (by rw [hD.1]; exact hD.2.1.1), ?_⟩
    rw [if_neg (by simpa only [q0, q1, q3, qs, qr, qp, qt, qd, qc, z1, z2, z3, z4, hD.1] using c1)]
    refine kM ?_
    exact m3_32 hC rfl (k _ _ _ (rw1 (rJ_tr hJ (by decide)) hB hP hS hC2 hY hD) (Nat.le_add_right _ _) (Nat.le_add_right _ _))
theorem o1_33 (hR : lwR l Ls xs z C) (hL : Ls ≤ 3072) (hi : i + 6 ≤ Ls) (hca : ca ≤ 601024) (hsl : sl ≤ 7293034) (hJ : rJ tl td tr tx rb N wh) (hB : bkR B R L G Bm Rm Lm Gm) (hP : rP B P Pm) (hS : rS S Sm) (hC2 : rC Cc Ccm) (hY : rY Y V) (hD : rD P D Dm) (k : ∀ aw ca' sl', RW aw → ca' ≤ ca + 26 → sl' ≤ sl + 608 → C 23 (LVL (i + 6)) [] aw ca' sl') : C 1558 (LVL i) [] ((stripW 0 tl true td tr lf tx rb N B R L G B2 R2 L2 G2 P W S Cc Y D) ++ (oW f ++ sT (modelH (tk 0 5) th tr wh lf tl sz ix so pl nu wd td (-1) (-1) tx Pm Dm ea pa co Sm Ccm V ba Bm Rm Lm Gm sk sp))) ca sl := by
  obtain ⟨hC, hSt, hM, -, -⟩ := hR
  obtain ⟨bA, bN, bI, ⟨t0, bt0, bt8, brX⟩, rA, rO, rI, lA, lU, l24, gA, gO, gG, gI⟩ := id hB
  obtain ⟨⟨n0, pn, pn8, pP⟩, pA, pO, pD⟩ := id hP
  obtain rfl : n0 = t0 := nI_inj (by omega) (by omega) (pn.symm.trans bt0)
  have rE := rEnd_g brX.1
  obtain ⟨u0, u1, u2, u3, -, b1, b2, b3, -, b15, b26, b36, -⟩ := id bI
  have q0 := told_m bA (s := 0) (by decide)
  have q1 := told_m bA (s := 1) (by decide)
  have q3 := told_m bA (s := 3) (by decide)
  have qs := sort_m bA
  have qr := rul_m bA
  have qp := per_m pA
  have qt := trv_m bA pA
  have qd := pdy_m pA
  have qc := con_m hD.1
  have z1 : Pm.2.2.2.2.2.2 = P.2.2.2.2.2.2 := pA.1.symm
  have z2 : Sm.2.2.2.2.2.1 = S.2.2.2.2.2.1 := hS.1.1.symm
  have z3 : Ccm.2.2.2.2.2.2.2 = Cc.2.2.2.2.2.2.2 := hC2.1.1.symm
  have z4 : Rm.2.2.2.2.2.2.2 = R.2.2.2.2.2.2.2 := rA.1.symm
  refine m1_33 hC hL hi ?_
  refine hSt 158 1565 2 1 2 _ _ (coL_158 l) dcL_1565 (by decide) (by decide) _ _ _ [.int (xs (i + 1))] [] _ _ rfl rfl rfl ⟨_, rfl⟩ (by decide) ?_
  refine ⟨_, _, _, _, _, _, _, _, _, _, _, _, _, _, _, _, _, _, _, _, _, _, _, rfl, rfl, pO, ?_⟩
  refine kSl hJ.2.2.2.1 ?_
  refine m2_33 hC hL hi ?_
  refine cM hM (coL_162 l) dcL_1575 (by decide) (by decide) rfl [.int (xs (i + 1))] [_] hca hsl rfl rfl (by exact Nat.le_of_ble_eq_true rfl) ?_
  refine ⟨_, _, _, _, _, _, _, _, _, _, _, _, _, _, _, _, _, _, _, _, _, _, _, _, _, _, _, _, _, rfl, rfl, (pOk_m pA pO), ?_⟩
  refine kMl ?_
  exact m3_33 hC (by rw [qp]; exact ite_congr rfl (fun c => (hD.2.2.2.1 _ (per_lt pO c)).symm) (fun _ => rfl)) (k _ _ _ (rw1 hJ hB hP hS hC2 hY hD) (Nat.le_add_right _ _) (Nat.le_add_right _ _))
theorem o1_35 (hR : lwR l Ls xs z C) (hL : Ls ≤ 3072) (hi : i + 6 ≤ Ls) (hca : ca ≤ 601024) (hsl : sl ≤ 7293034) (hJ : rJ tl td tr tx rb N wh) (hB : bkR B R L G Bm Rm Lm Gm) (hP : rP B P Pm) (hS : rS S Sm) (hC2 : rC Cc Ccm) (hY : rY Y V) (hD : rD P D Dm) (k : ∀ aw ca' sl', RW aw → ca' ≤ ca + 26 → sl' ≤ sl + 608 → C 23 (LVL (i + 6)) [] aw ca' sl') : C 1676 (LVL i) [] ((stripW 0 tl true td tr lf tx rb N B R L G B2 R2 L2 G2 P W S Cc Y D) ++ (oW f ++ sT (modelH (tk 0 5) th tr wh lf tl sz ix so pl nu wd td (-1) (-1) tx Pm Dm ea pa co Sm Ccm V ba Bm Rm Lm Gm sk sp))) ca sl := by
  obtain ⟨hC, hSt, hM, -, -⟩ := hR
  obtain ⟨bA, bN, bI, ⟨t0, bt0, bt8, brX⟩, rA, rO, rI, lA, lU, l24, gA, gO, gG, gI⟩ := id hB
  obtain ⟨⟨n0, pn, pn8, pP⟩, pA, pO, pD⟩ := id hP
  obtain rfl : n0 = t0 := nI_inj (by omega) (by omega) (pn.symm.trans bt0)
  have rE := rEnd_g brX.1
  obtain ⟨u0, u1, u2, u3, -, b1, b2, b3, -, b15, b26, b36, -⟩ := id bI
  have q0 := told_m bA (s := 0) (by decide)
  have q1 := told_m bA (s := 1) (by decide)
  have q3 := told_m bA (s := 3) (by decide)
  have qs := sort_m bA
  have qr := rul_m bA
  have qp := per_m pA
  have qt := trv_m bA pA
  have qd := pdy_m pA
  have qc := con_m hD.1
  have z1 : Pm.2.2.2.2.2.2 = P.2.2.2.2.2.2 := pA.1.symm
  have z2 : Sm.2.2.2.2.2.1 = S.2.2.2.2.2.1 := hS.1.1.symm
  have z3 : Ccm.2.2.2.2.2.2.2 = Cc.2.2.2.2.2.2.2 := hC2.1.1.symm
  have z4 : Rm.2.2.2.2.2.2.2 = R.2.2.2.2.2.2.2 := rA.1.symm
  refine m1_35 hC hL hi ?_
  refine hSt 172 1683 2 0 2 _ _ (coL_172 l) dcL_1683 (by decide) (by decide) _ _ _ [.int (xs (i + 1))] [] _ _ rfl rfl rfl ⟨_, rfl⟩ (by decide) ?_
  refine ⟨_, _, _, _, _, _, _, _, _, _, _, _, _, _, _, _, _, _, _, _, _, _, _, rfl, rfl, ?_⟩
  refine kS hJ.2.2.2.1 ?_
  refine m2_35 hC hL hi ?_
  refine cM hM (coL_175 l) dcL_1693 (by decide) (by decide) rfl [.int (xs (i + 1))] [_] hca hsl rfl rfl (by exact Nat.le_of_ble_eq_true rfl) ?_
  refine ⟨_, _, _, _, _, _, _, _, _, _, _, _, _, _, _, _, _, _, _, _, _, _, _, _, _, _, _, _, _, rfl, rfl, ?_⟩
  refine kM ?_
  exact m3_35 hC (by rw [bA.1 0 (by decide), bA.1 1 (by decide), bA.1 2 (by decide), bA.1 3 (by decide), z1, z2, z3, z4, hD.1, hY.2.2.2.1, show Lm.2.2.2.2.2.2.2 = L.2.2.2.2.2.2.2 from lA.1.symm, show Gm.2.2.2.2.2.2.2.2 = G.2.2.2.2.2.2.2.2 from gA.1.symm]) (k _ _ _ (rw1 hJ hB hP hS hC2 hY hD) (Nat.le_add_right _ _) (Nat.le_add_right _ _))
end O1

