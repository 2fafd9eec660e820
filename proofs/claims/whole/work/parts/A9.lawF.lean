theorem led_m {B : BT} {P Pm : PT} {L Lm : LT} {R Rm : RT} {n : Nat} {p x d : Int32} (h : pAg P Pm) (hl : lAg L Lm) (hr : rAg R Rm) (hu : lUn L) (hX : rX R n) (hro : rOk R) (hP : pOk P) (hpl : pPl P n) (hB : B.1 0 = nI n) (hn : n ≤ 8) (c : trvR B.1 P p x d = 0) (W : WT) (ea pa ba : Nat → Int32) :
    ((goF Pm Lm Rm p.toNatClampNeg n (Pm.1 p.toNatClampNeg).toNatClampNeg (-1) (-1) d ea pa).1 x.toNatClampNeg = 1000000 ∧ (ledT R (ledW P L R n p d W) x).1 = 0) ∨
    (¬ (goF Pm Lm Rm p.toNatClampNeg n (Pm.1 p.toNatClampNeg).toNatClampNeg (-1) (-1) d ea pa).1 x.toNatClampNeg = 1000000 ∧ ∃ m t' b', ledT R (ledW P L R n p d W) x = (m + 1, t') ∧ ldW2 Pm Lm Rm p.toNatClampNeg (-1) (-1) (goF Pm Lm Rm p.toNatClampNeg n (Pm.1 p.toNatClampNeg).toNatClampNeg (-1) (-1) d ea pa).1 (Pm.1 p.toNatClampNeg).toNatClampNeg 7 0 x.toNatClampNeg (upd ba 0 x) = some (m, b') ∧ (∀ i, i ≤ m → t' i = b' i) ∧ m ≤ 7) := by
  have hf := first_m h hl hr hu hX hro hP hpl hB hn c W ea pa
  obtain ⟨h1, h2, h3, h4⟩ := trv_x hP hpl hB hn c
  obtain ⟨-, c2, -⟩ := trvR_0 c
  obtain ⟨y, ey, hy⟩ := toldI hB hn c2
  have ex : x = nI x.toNatClampNeg := by rw [ey, nI_clamp (by omega)]
  have hFJ := first_ag h hl hr hu hX.2.2.1 hX.2.2.2 hro.1 h1 hX.1 hn h3 (mo := -1) (dayB_I h4).1 (dayB_I h4).2 W ea pa
  rw [← (h.2 _ h1).1] at hf ⊢
  by_cases c9 : (findD P L R p.toNatClampNeg n (P.1 p.toNatClampNeg).toNatClampNeg d W).1 x.toNatClampNeg = 1000000
  · refine Or.inl ⟨hf.symm.trans c9, ?_⟩
    unfold ledT ledW
    rw [trF, if_pos c9]
  · refine Or.inr ⟨fun z => c9 (hf.trans z), ?_⟩
    have hN : ((findD P L R p.toNatClampNeg n (P.1 p.toNatClampNeg).toNatClampNeg d W).1 x.toNatClampNeg).toInt ≠ 1000000 := fun z => c9 (Int32.toInt_inj.mp (z.trans (by decide)))
    obtain ⟨m, t', b', q1, q2, q3, q4⟩ := led_ag (mo := -1) h hl hr hu hX.2.2.1 hX.2.2.2 hro.1 h1 hX.1 hn h3 hFJ.1 hFJ.2 h2 hN (findD P L R p.toNatClampNeg n (P.1 p.toNatClampNeg).toNatClampNeg d W).2.1 ba
    rw [← ex] at q2
    exact ⟨m, t', b', q1, q2, q3, q4⟩
section K9
variable {tl : Nat} {td : Int32} {tr : Int32} {lf : Int32} {tx : Nat → Int32} {rb : Value} {N : NT} {B : BT} {R : RT} {L : LT} {G : GT} {B2 : BT} {R2 : RT} {L2 : LT} {G2 : GT} {P : PT} {W : WT} {S : ST} {Cc : CT} {Y : YT} {D : DT} {hb : Bool} {f : Nat → Int64}
set_option maxRecDepth 100000
theorem kL {C : q_N} {ca sl : Nat} {lv : q_L} {X : List q_C} {v : Int32} (h : rb = .ref 2 ∨ rb = .ref 32) (k : C 1613 lv [.int v] ((stripW 0 tl hb td tr lf tx rb N B R L G B2 R2 L2 G2 P W S Cc Y D) ++ (oW f ++ X)) ca sl) :
    lwOut (.inl (some (.int v))) (fun v => (((stripW 0 tl hb td tr lf tx rb N B R L G B2 R2 L2 G2 P W S Cc Y D) ++ oW f).length = 104 ∧ q_vw 104 ((stripW 0 tl hb td tr lf tx rb N B R L G B2 R2 L2 G2 P W S Cc Y D) ++ oW f) = true) ∧ C 1613 lv [v] (((stripW 0 tl hb td tr lf tx rb N B R L G B2 R2 L2 G2 P W S Cc Y D) ++ oW f) ++ X) ca sl) := by
  refine ⟨?_, by rw [List.append_assoc]; exact k⟩
  rcases h with h | h <;> (subst h; exact ⟨rfl, rfl⟩)
end K9
section O0c
variable {l : Launch} {Ls i ca sl : Nat} {xs : Nat → Int32} {z : q_K} {C : q_N} {tl : Nat} {tr : Int32} {lf : Int32} {tx : Nat → Int32} {rb : Value} {N : NT} {B2 : BT} {R2 : RT} {L2 : LT} {G2 : GT} {W : WT} {th : Int32} {wh : Int32} {sz : Int32} {ix : Int32} {so : Int32} {pl : Int32} {nu : Int32} {wd : Int64} {ea : Nat → Int32} {pa : Nat → Int32} {co : Nat → Int32} {ba : Nat → Int32} {sk sp : Int32} {fr : Value} {f : Nat → Int64}
set_option maxRecDepth 100000
theorem o0_34 (hR : lwR l Ls xs z C) (hL : Ls ≤ 3072) (hi : i + 6 ≤ Ls) (hca : ca + 26 ≤ 601024) (hsl : sl + 608 ≤ 7293034) (hJ : rJ tl 0 tr tx rb N wh) (hf : frOk fr) (k : ∀ aw ca' sl', RW aw → ca' ≤ ca + 26 → sl' ≤ sl + 608 → C 23 (LVL (i + 6)) [] aw ca' sl') : C 1584 (LVL i) [] ((stripW 0 tl false 0 tr lf tx rb N zBT zRT zLT zGT B2 R2 L2 G2 zPT W zST zCT zYT zDT) ++ (oW f ++ sT (modelYN fr th tr wh lf tl sz ix so pl nu wd 0 (-1) (-1) tx zPT zDT ea pa co zST zCT zVT ba sk sp))) ca sl := by
  obtain ⟨hC, hS, hM, hLd, -⟩ := hR
  refine m1_34 hC hL hi ?_
  rw [← List.append_assoc]
  refine hLd _ _ _ _ _ _ _ _ _ rfl (by omega) (by omega) ?_
  refine ⟨_, _, _, _, _, _, _, _, _, _, _, _, _, _, _, _, _, _, _, _, _, _, 0, f, _, _, _, _, rfl, rfl, pOkZ, pPlZ, rOkZ, rEndZ, (by decide), rfl, (by decide), ?_⟩
  rw [if_neg (by rw [trvZ]; decide)]
  refine kL hJ.2.2.2.1 ?_
  refine m2_34 hC hL hi ?_
  refine cN hM (coL_168_n l) dcL_1640 (by decide) (by decide) rfl [.int (xs (i + 1)), .int (xs (i + 2)), .int (xs (i + 3)), .int (xs (i + 4))] [] (by omega) (by omega) rfl rfl (by exact Nat.le_of_ble_eq_true rfl) hf ?_
  refine ⟨_, _, _, _, _, _, _, _, _, _, _, _, _, _, _, _, _, _, _, _, _, _, _, _, _, _, _, _, _, rfl, rfl, hf, rfl, ?_⟩
  refine kN hf ?_
  refine m3_34 hC ?_
  refine cN hM (coL_169_n l) dcL_1646 (by decide) (by decide) rfl [] [] (by omega) (by omega) rfl rfl (by exact Nat.le_of_ble_eq_true rfl) hf ?_
  refine ⟨_, _, _, _, _, _, _, _, _, _, _, _, _, _, _, _, _, _, _, _, _, _, _, _, _, rfl, rfl, hf, ?_⟩
  refine kN hf ?_
  refine m4_34 _ _ _ _ _ _ _ _ _ _ _ _ _ _ _ _ _ _ _ _ _ _ hC rfl (fun z => absurd z (by decide)) (k _ _ _ (rw0 hJ hf) (by omega) (by omega))
end O0c
section O1
variable {l : Launch} {Ls i ca sl : Nat} {xs : Nat → Int32} {z : q_K} {C : q_N} {tl : Nat} {td : Int32} {tr : Int32} {lf : Int32} {tx : Nat → Int32} {rb : Value} {N : NT} {B : BT} {R : RT} {L : LT} {G : GT} {B2 : BT} {R2 : RT} {L2 : LT} {G2 : GT} {P : PT} {W : WT} {S : ST} {Cc : CT} {Y : YT} {D : DT} {th : Int32} {wh : Int32} {sz : Int32} {ix : Int32} {so : Int32} {pl : Int32} {nu : Int32} {wd : Int64} {ea : Nat → Int32} {pa : Nat → Int32} {co : Nat → Int32} {V : VT} {ba : Nat → Int32} {sk sp : Int32} {Pm : PT} {Dm : DT} {Sm : ST} {Ccm : CT} {Bm : BT} {Rm : RT} {Lm : LT} {Gm : GT} {f : Nat → Int64}
set_option maxRecDepth 100000
theorem led_1 (hC : lwGo Ls xs z C) (hM : lwM l C) (hca : ca + 26 ≤ 601024) (hsl : sl + 608 ≤ 7293034) (hJ : rJ tl td tr tx rb N wh) (hB : bkR B R L G Bm Rm Lm Gm) (hP : rP B P Pm) (hS : rS S Sm) (hC2 : rC Cc Ccm) (hY : rY Y V) (hD : rD P D Dm) (k : ∀ aw ca' sl', RW aw → ca' ≤ ca + 26 → sl' ≤ sl + 608 → C 23 (LVL (i + 6)) [] aw ca' sl') {r v : Int32} (hr : r = th) (hv : r = 0 → f 0 = v.toInt64) : C 1643 (LVL5 i r) [.int v] ((stripW 0 tl true td tr lf tx rb N B R L G B2 R2 L2 G2 P W S Cc Y D) ++ (oW f ++ sT (modelH (tk 0 5) th tr wh lf tl sz ix so pl nu wd td (-1) (-1) tx Pm Dm ea pa co Sm Ccm V ba Bm Rm Lm Gm sk sp))) (ca + 1) (sl + 6) := by
  refine m3_34 hC ?_
  refine cM hM (coL_169 l) dcL_1646 (by decide) (by decide) rfl [] [] (by omega) (by omega) rfl rfl (by exact Nat.le_of_ble_eq_true rfl) ?_
  refine ⟨_, _, _, _, _, _, _, _, _, _, _, _, _, _, _, _, _, _, _, _, _, _, _, _, _, _, _, _, rfl, rfl, ?_⟩
  refine kM ?_
  exact m4_34 _ _ _ _ _ _ _ _ _ _ _ _ _ _ _ _ _ _ _ _ _ _ hC hr.symm hv (k _ _ _ (rw1 hJ hB hP hS hC2 hY hD) (by omega) (by omega))
theorem o1_34 (hR : lwR l Ls xs z C) (hL : Ls ≤ 3072) (hi : i + 6 ≤ Ls) (hca : ca + 26 ≤ 601024) (hsl : sl + 608 ≤ 7293034) (hJ : rJ tl td tr tx rb N wh) (hB : bkR B R L G Bm Rm Lm Gm) (hP : rP B P Pm) (hS : rS S Sm) (hC2 : rC Cc Ccm) (hY : rY Y V) (hD : rD P D Dm) (k : ∀ aw ca' sl', RW aw → ca' ≤ ca + 26 → sl' ≤ sl + 608 → C 23 (LVL (i + 6)) [] aw ca' sl') : C 1584 (LVL i) [] ((stripW 0 tl true td tr lf tx rb N B R L G B2 R2 L2 G2 P W S Cc Y D) ++ (oW f ++ sT (modelH (tk 0 5) th tr wh lf tl sz ix so pl nu wd td (-1) (-1) tx Pm Dm ea pa co Sm Ccm V ba Bm Rm Lm Gm sk sp))) ca sl := by
  obtain ⟨hC, hSt, hM, hLd, -⟩ := hR
  obtain ⟨bA, bN, bI, ⟨t0, bt0, bt8, brX⟩, rA, rO, rI, lA, lU, l24, gA, gO, gG, gI⟩ := id hB
  obtain ⟨⟨n0, pn, pn8, pP⟩, pA, pO, pD⟩ := id hP
  obtain rfl : n0 = t0 := nI_inj (by omega) (by omega) (pn.symm.trans bt0)
  have rE := rEnd_g brX.1
  obtain ⟨u0, u1, u2, u3, -, b1, b2, b3, -, b15, b26, b36, -⟩ := id bI
  have q0 := told_m bA (s := 0) (by decide)
  have q1 := told_m bA (s := 1) (by decide)
  have q3 := told_m bA (s := 3) (by decide)
  have qs := sort_m bA
  have qr := rul_m bA
  have qp := per_m pA
  have qt := trv_m bA pA
  have qd := pdy_m pA
  have qc := con_m hD.1
  have z1 : Pm.2.2.2.2.2.2 = P.2.2.2.2.2.2 := pA.1.symm
  have z2 : Sm.2.2.2.2.2.1 = S.2.2.2.2.2.1 := hS.1.1.symm
  have z3 : Ccm.2.2.2.2.2.2.2 = Cc.2.2.2.2.2.2.2 := hC2.1.1.symm
  have z4 : Rm.2.2.2.2.2.2.2 = R.2.2.2.2.2.2.2 := rA.1.symm
  refine m1_34 hC hL hi ?_
  rw [← List.append_assoc]
  refine hLd _ _ _ _ _ _ _ _ _ rfl (by omega) (by omega) ?_
  refine ⟨_, _, _, _, _, _, _, _, _, _, _, _, _, _, _, _, _, _, _, _, _, _, n0, f, _, _, _, _, rfl, rfl, pO, pP, rO, rE, l24, pn, pn8, ?_⟩
  by_cases c1 : trvR B.1 P (xs (i + 1)) (xs (i + 2)) (xs (i + 3)) = 0
  · rw [if_pos c1]
    rcases led_m pA lA rA lU brX rO pO pP pn pn8 c1 W ea pa ba with ⟨e1, e2⟩ | ⟨e1, m, t', b', e2, e3, e4, e5⟩
    · rw [if_neg (by rw [e2]; exact fun z => absurd z.2 (Int32.not_lt.mpr z.1))]
      refine kL hJ.2.2.2.1 ?_
      refine m2_34 hC hL hi ?_
      refine cM hM (coL_168 l) dcL_1640 (by decide) (by decide) rfl [.int (xs (i + 1)), .int (xs (i + 2)), .int (xs (i + 3)), .int (xs (i + 4))] [] (by omega) (by omega) rfl rfl (by exact Nat.le_of_ble_eq_true rfl) ?_
      refine ⟨_, _, _, _, _, _, _, _, _, _, _, _, _, _, _, _, _, _, _, _, _, _, _, _, _, _, _, _, n0, _, _, _, _, rfl, rfl, (pOk_m pA pO), (pPl_m pA pP), (rOk_m rA rO), (rEnd_m rA rE), (l24_m lA l24), ((bA.1 0 (by decide)).symm.trans pn), pn8, ?_⟩
      by_cases c2 : 0 ≤ xs (i + 4)
      · rw [if_pos ⟨by rw [qt]; exact c1, c2⟩, if_pos e1]
        exact kM (led_1 hC hM hca hsl hJ hB hP hS hC2 hY hD k rfl (fun z => absurd z (by decide)))
      · rw [if_neg (fun z => c2 z.2)]
        exact kM (led_1 hC hM hca hsl hJ hB hP hS hC2 hY hD k rfl (fun z => absurd z (by decide)))
    · rw [e2]
      by_cases c2 : 0 ≤ xs (i + 4) ∧ xs (i + 4) < nI (m + 1)
      · rw [if_pos c2]
        refine kL hJ.2.2.2.1 ?_
        refine m2_34 hC hL hi ?_
        refine cM hM (coL_168 l) dcL_1640 (by decide) (by decide) rfl [.int (xs (i + 1)), .int (xs (i + 2)), .int (xs (i + 3)), .int (xs (i + 4))] [] (by omega) (by omega) rfl rfl (by exact Nat.le_of_ble_eq_true rfl) ?_
        refine ⟨_, _, _, _, _, _, _, _, _, _, _, _, _, _, _, _, _, _, _, _, _, _, _, _, _, _, _, _, n0, _, _, _, _, rfl, rfl, (pOk_m pA pO), (pPl_m pA pP), (rOk_m rA rO), (rEnd_m rA rE), (l24_m lA l24), ((bA.1 0 (by decide)).symm.trans pn), pn8, ?_⟩
        rw [if_pos ⟨by rw [qt]; exact c1, c2.1⟩, if_neg e1, e3]
        obtain ⟨j, ej, hj⟩ := inI (by omega) c2
        have hjj : (xs (i + 4)).toNatClampNeg = j := by rw [ej, nI_clamp (by omega)]
        show ite _ _ _
        rw [if_pos (by rw [ej, nI_leI (by omega) (by omega)]; omega)]
        refine kM (led_1 hC hM hca hsl hJ hB hP hS hC2 hY hD k rfl (fun _ => ?_))
        show (t' (m + 1 - 1 - (xs (i + 4)).toNatClampNeg)).toInt64 = _
        rw [show m + 1 - 1 - (xs (i + 4)).toNatClampNeg = m - (xs (i + 4)).toNatClampNeg by omega, e4 _ (by omega)]
      · rw [if_neg c2]
        refine kL hJ.2.2.2.1 ?_
        refine m2_34 hC hL hi ?_
        refine cM hM (coL_168 l) dcL_1640 (by decide) (by decide) rfl [.int (xs (i + 1)), .int (xs (i + 2)), .int (xs (i + 3)), .int (xs (i + 4))] [] (by omega) (by omega) rfl rfl (by exact Nat.le_of_ble_eq_true rfl) ?_
        refine ⟨_, _, _, _, _, _, _, _, _, _, _, _, _, _, _, _, _, _, _, _, _, _, _, _, _, _, _, _, n0, _, _, _, _, rfl, rfl, (pOk_m pA pO), (pPl_m pA pP), (rOk_m rA rO), (rEnd_m rA rE), (l24_m lA l24), ((bA.1 0 (by decide)).symm.trans pn), pn8, ?_⟩
        by_cases c3 : 0 ≤ xs (i + 4)
        · rw [if_pos ⟨by rw [qt]; exact c1, c3⟩, if_neg e1, e3]
          show ite _ _ _
          rw [if_neg (fun z => c2 ⟨c3, by
            rw [Int32.le_iff_toInt_le, nI_toInt (by omega)] at z
            rw [Int32.lt_iff_toInt_lt, nI_toInt (by omega)]
            omega⟩)]
          exact kM (led_1 hC hM hca hsl hJ hB hP hS hC2 hY hD k rfl (fun z => absurd z (by decide)))
        · rw [if_neg (fun z => c3 z.2)]
          exact kM (led_1 hC hM hca hsl hJ hB hP hS hC2 hY hD k rfl (fun z => absurd z (by decide)))
  · rw [if_neg c1]
    refine kL hJ.2.2.2.1 ?_
    refine m2_34 hC hL hi ?_
    refine cM hM (coL_168 l) dcL_1640 (by decide) (by decide) rfl [.int (xs (i + 1)), .int (xs (i + 2)), .int (xs (i + 3)), .int (xs (i + 4))] [] (by omega) (by omega) rfl rfl (by exact Nat.le_of_ble_eq_true rfl) ?_
    refine ⟨_, _, _, _, _, _, _, _, _, _, _, _, _, _, _, _, _, _, _, _, _, _, _, _, _, _, _, _, n0, _, _, _, _, rfl, rfl, (pOk_m pA pO), (pPl_m pA pP), (rOk_m rA rO), (rEnd_m rA rE), (l24_m lA l24), ((bA.1 0 (by decide)).symm.trans pn), pn8, ?_⟩
    rw [if_neg (fun z => c1 (by rw [← qt]; exact z.1))]
    exact kM (led_1 hC hM hca hsl hJ hB hP hS hC2 hY hD k rfl (fun z => absurd z (by decide)))
end O1

