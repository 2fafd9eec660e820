theorem kG {C : q_N} {pc i ca sl : Nat} {w X Z : List q_C} {f : Nat → Int64} {r v : Int32} (hw : q_vw (104 + X.length) (w ++ oW f) = true) (hl : X.length ≤ Z.length) (hx : 1 ≤ X.length) (hz : q_vw Z.length Z = true) (k : C (pc + 3) (LVL i) [.int v, .int r] ((w ++ oW f) ++ Z.map (q_sftT 104 none) ++ []) ca sl) : kB C pc (LVL i) [.int r] none (w ++ oW f) X [] ca sl (.inl (some (.int v))) Z := by
  refine ⟨Or.inr ⟨hl, rfl, rfl, ?_, rfl, hw⟩, hz, k⟩
  have h1 : ∀ p, p ≤ 104 → Nat.ble (p + 1) (104 + X.length) = true := fun p hp => Nat.ble_eq_true_of_le (by omega)
  simp only [LVL, q_vl, q_v, h1 0 (by decide), h1 104 (by decide), h1 103 (by decide)]
set_option maxRecDepth 100000 in
theorem kA {C : q_N} {th : Int32} {tr : Int32} {wh : Int32} {fa : Int32} {ta : Nat} {sz : Int32} {ix : Int32} {so : Int32} {pl : Int32} {nu : Int32} {wd : Int64} {td : Int32} {mk : Int32} {mo : Int32} {tx : Nat → Int32} {P : PT} {D : DT} {ea : Nat → Int32} {pa : Nat → Int32} {co : Nat → Int32} {S : ST} {Cc : CT} {V : VT} {ba : Nat → Int32} {sk sp : Int32} {fr : Value} {f : Nat → Int64} {th' : Int32} {tr' : Int32} {wh' : Int32} {fa' : Int32} {ta' : Nat} {sz' : Int32} {ix' : Int32} {so' : Int32} {pl' : Int32} {nu' : Int32} {wd' : Int64} {td' : Int32} {mk' : Int32} {mo' : Int32} {tx' : Nat → Int32} {P' : PT} {D' : DT} {ea' : Nat → Int32} {pa' : Nat → Int32} {co' : Nat → Int32} {S' : ST} {Cc' : CT} {V' : VT} {ba' : Nat → Int32} {sk' sp' : Int32} (hf : frOk fr) {pc ca sl : Nat} {lv : q_L} {rest : List Value} {w : List q_C} {v : Int32} (k : C (pc + 3) lv (.int v :: rest) (w ++ (oW f ++ sT (modelYN fr th' tr' wh' fa' ta' sz' ix' so' pl' nu' wd' td' mk' mo' tx' P' D' ea' pa' co' S' Cc' V' ba' sk' sp'))) ca sl) : kB C pc lv rest none (w ++ oW f) (modelYN fr th tr wh fa ta sz ix so pl nu wd td mk mo tx P D ea pa co S Cc V ba sk sp) [] ca sl (.inl (some (.int v))) (modelYN fr th' tr' wh' fa' ta' sz' ix' so' pl' nu' wd' td' mk' mo' tx' P' D' ea' pa' co' S' Cc' V' ba' sk' sp') := by
  rw [wH_in] at k
  rcases hf with rfl | rfl
  · exact ⟨Or.inl rfl, rfl, k⟩
  · exact ⟨Or.inl rfl, rfl, k⟩
section O1
variable {l : Launch} {Ls i ca sl : Nat} {xs : Nat → Int32} {z : q_K} {C : q_N} {tl : Nat} {td : Int32} {tr : Int32} {lf : Int32} {tx : Nat → Int32} {rb : Value} {N : NT} {B : BT} {R : RT} {L : LT} {G : GT} {B2 : BT} {R2 : RT} {L2 : LT} {G2 : GT} {P : PT} {W : WT} {S : ST} {Cc : CT} {Y : YT} {D : DT} {th : Int32} {wh : Int32} {sz : Int32} {ix : Int32} {so : Int32} {pl : Int32} {nu : Int32} {wd : Int64} {ea : Nat → Int32} {pa : Nat → Int32} {co : Nat → Int32} {V : VT} {ba : Nat → Int32} {sk sp : Int32} {Pm : PT} {Dm : DT} {Sm : ST} {Ccm : CT} {Bm : BT} {Rm : RT} {Lm : LT} {Gm : GT} {f : Nat → Int64}
set_option maxRecDepth 100000
theorem o1_1 (hR : lwR l Ls xs z C) (hK : lwK C) (hL : Ls ≤ 3072) (hi : i + 6 ≤ Ls) (hca : ca + 26 ≤ 601024) (hsl : sl + 608 ≤ 7293034) (hJ : rJ tl td tr tx rb N wh) (hB : bkR B R L G Bm Rm Lm Gm) (hP : rP B P Pm) (hS : rS S Sm) (hC2 : rC Cc Ccm) (hY : rY Y V) (hD : rD P D Dm) (k : ∀ aw ca' sl', RW aw → ca' ≤ ca + 26 → sl' ≤ sl + 608 → C 23 (LVL (i + 6)) [] aw ca' sl') : C 277 (LVL i) [] ((stripW 0 tl true td tr lf tx rb N B R L G B2 R2 L2 G2 P W S Cc Y D) ++ (oW f ++ sT (modelH (tk 0 5) th tr wh lf tl sz ix so pl nu wd td (-1) (-1) tx Pm Dm ea pa co Sm Ccm V ba Bm Rm Lm Gm sk sp))) ca sl := by
  obtain ⟨hC, hSt, hM, -, hN⟩ := hR
  refine m1_1 hC hL hi ?_
  refine hSt 24 284 2 10 4 _ _ (coL_24 l) dcL_284 (by decide) (by decide) _ _ _ [.int (xs (i + 1))] [] _ _ rfl rfl rfl ⟨_, rfl⟩ (by decide) ?_
  refine ⟨_, _, _, _, _, _, _, _, _, _, _, _, _, _, _, _, _, _, _, _, _, _, _, rfl, rfl, hJ.1, hJ.2.2.2.1, ?_⟩
  split
  · next c1 =>
    obtain ⟨n, en, hn, hcl⟩ := inT hJ.1 c1
    obtain ⟨p0, ep⟩ := nI_sur pl
    rw [hcl]
    refine book_sim (Φ := fun (a : Prop) (b : bRes) => b = mBres tx n (n + 1) (nxF tx n (0, so, p0, nu, wd)) zBT zRT zLT zGT → a) (k' := fun Q B R L G => .inl (Q, B, R, L, G)) (kf := fun e p => .inr (e, p)) (so := so) (nu := nu) (p0 := p0) (wd := wd) hJ.2.1 (by have := hJ.1; omega) ?_ ?_ rfl
    · intro Z1 Q1 C1 T1 M1 H1 a1 a2 e
      dsimp only
      rw [if_pos rfl]
      refine kV ?_
      refine m2_1 hC hL hi ?_
      refine cH hM (coL_28 l) dcL_294 (by decide) (by decide) rfl ⟨_, rfl⟩ [.int (xs (i + 1))] [_] (by omega) (by omega) rfl rfl (by exact Nat.le_of_ble_eq_true rfl) ?_
      refine ⟨.null, _, _, _, _, _, _, _, _, _, _, _, _, _, _, _, _, _, _, _, _, _, _, _, _, _, _, _, _, _, _, _, rfl, rfl, rfl, hJ.1, ?_⟩
      rw [if_pos c1, hcl]
      intro p1 ep1
      rw [nxF_p p1 p0]
      refine mBres_l e.symm ?_
      refine kG rfl (Nat.le_of_ble_eq_true rfl) (Nat.le_of_ble_eq_true rfl) rfl ?_
      rw [a1]
      have nr := new_rel (P := P) (Pm := Pm) (S := S) (Sm := Sm) (Cc := Cc) (Ccm := Ccm) (Y := Y) (V := V) (D := D) (Dm := Dm) a2 hY.1 hY.2.1
      exact m3_1 hC (congrArg nI a2.2.2.2.2.2.2.2.1.1) (rn_ok1 hN hK (k _ _ _ (rw1 ⟨Nat.zero_le _, hJ.2.1, by rw [if_neg (by decide)], Or.inl rfl, by decide, by decide⟩ a2 nr.1 nr.2.1 nr.2.2.1 nr.2.2.2.1 nr.2.2.2.2) (Nat.le_refl _) (Nat.le_refl _)))
    · intro Z1 e p a1 a2 e9
      dsimp only
      rw [if_neg (by decide)]
      refine kS (Or.inr rfl) ?_
      refine m2_1 hC hL hi ?_
      refine cH hM (coL_28 l) dcL_294 (by decide) (by decide) rfl ⟨_, rfl⟩ [.int (xs (i + 1))] [_] (by omega) (by omega) rfl rfl (by exact Nat.le_of_ble_eq_true rfl) ?_
      refine ⟨.null, _, _, _, _, _, _, _, _, _, _, _, _, _, _, _, _, _, _, _, _, _, _, _, _, _, _, _, _, _, _, _, rfl, rfl, rfl, hJ.1, ?_⟩
      rw [if_pos c1, hcl]
      intro p1 ep1
      rw [nxF_p p1 p0]
      refine mBres_r e9.symm ?_
      intro Q2 B9 R9 L9 G9
      refine kG rfl (Nat.le_of_ble_eq_true rfl) (Nat.le_of_ble_eq_true rfl) rfl ?_
      rw [a1]
      exact m3_1 hC rfl (rn_bad1 hN hK (k _ _ _ (rw1 ⟨Nat.zero_le _, hJ.2.1, by rw [if_pos rfl]; exact a2.symm, Or.inr rfl, hJ.2.2.2.2⟩ hB hP hS hC2 hY hD) (Nat.le_refl _) (Nat.le_refl _)))
  · next c1 =>
    refine kS hJ.2.2.2.1 ?_
    refine m2_1 hC hL hi ?_
    refine cH hM (coL_28 l) dcL_294 (by decide) (by decide) rfl ⟨_, rfl⟩ [.int (xs (i + 1))] [_] (by omega) (by omega) rfl rfl (by exact Nat.le_of_ble_eq_true rfl) ?_
    refine ⟨.null, _, _, _, _, _, _, _, _, _, _, _, _, _, _, _, _, _, _, _, _, _, _, _, _, _, _, _, _, _, _, _, rfl, rfl, rfl, hJ.1, ?_⟩
    rw [if_neg c1]
    refine kH (Or.inl rfl) ?_
    exact m3_1 hC rfl (k _ _ _ (rw1 (rJ_tr hJ (by decide)) hB hP hS hC2 hY hD) (Nat.le_refl _) (Nat.le_refl _))
end O1
section O0d
variable {l : Launch} {Ls i ca sl : Nat} {xs : Nat → Int32} {z : q_K} {C : q_N} {tl : Nat} {tr : Int32} {lf : Int32} {tx : Nat → Int32} {rb : Value} {N : NT} {B2 : BT} {R2 : RT} {L2 : LT} {G2 : GT} {W : WT} {th : Int32} {wh : Int32} {sz : Int32} {ix : Int32} {so : Int32} {pl : Int32} {nu : Int32} {wd : Int64} {ea : Nat → Int32} {pa : Nat → Int32} {co : Nat → Int32} {ba : Nat → Int32} {sk sp : Int32} {fr : Value} {f : Nat → Int64}
set_option maxRecDepth 100000
theorem o0_1 (hR : lwR l Ls xs z C) (hK : lwK C) (hL : Ls ≤ 3072) (hi : i + 6 ≤ Ls) (hca : ca + 26 ≤ 601024) (hsl : sl + 608 ≤ 7293034) (hJ : rJ tl 0 tr tx rb N wh) (hf : frOk fr) (k : ∀ aw ca' sl', RW aw → ca' ≤ ca + 26 → sl' ≤ sl + 608 → C 23 (LVL (i + 6)) [] aw ca' sl') : C 277 (LVL i) [] ((stripW 0 tl false 0 tr lf tx rb N zBT zRT zLT zGT B2 R2 L2 G2 zPT W zST zCT zYT zDT) ++ (oW f ++ sT (modelYN fr th tr wh lf tl sz ix so pl nu wd 0 (-1) (-1) tx zPT zDT ea pa co zST zCT zVT ba sk sp))) ca sl := by
  obtain ⟨hC, hSt, hM, -, hN⟩ := hR
  refine m1_1 hC hL hi ?_
  refine hSt 24 284 2 10 4 _ _ (coL_24 l) dcL_284 (by decide) (by decide) _ _ _ [.int (xs (i + 1))] [] _ _ rfl rfl rfl ⟨_, rfl⟩ (by decide) ?_
  refine ⟨_, _, _, _, _, _, _, _, _, _, _, _, _, _, _, _, _, _, _, _, _, _, _, rfl, rfl, hJ.1, hJ.2.2.2.1, ?_⟩
  split
  · next c1 =>
    obtain ⟨n, en, hn, hcl⟩ := inT hJ.1 c1
    obtain ⟨p0, ep⟩ := nI_sur pl
    rw [hcl]
    refine book_sim (Φ := fun (a : Prop) (b : bRes) => b = mBres tx n (n + 1) (nxF tx n (0, so, p0, nu, wd)) zBT zRT zLT zGT → a) (k' := fun Q B R L G => .inl (Q, B, R, L, G)) (kf := fun e p => .inr (e, p)) (so := so) (nu := nu) (p0 := p0) (wd := wd) hJ.2.1 (by have := hJ.1; omega) ?_ ?_ rfl
    · intro Z1 Q1 C1 T1 M1 H1 a1 a2 e
      dsimp only
      rw [if_pos rfl]
      refine kV ?_
      refine m2_1 hC hL hi ?_
      refine cH hM (coL_28_n l) dcL_294 (by decide) (by decide) rfl ⟨_, rfl⟩ [.int (xs (i + 1))] [_] (by omega) (by omega) rfl rfl (by exact Nat.le_of_ble_eq_true rfl) ?_
      refine ⟨_, _, _, _, _, _, _, _, _, _, _, _, _, _, _, _, _, _, _, _, _, _, _, _, _, _, _, _, rfl, rfl, hf, hJ.1, ?_⟩
      rw [if_pos c1, hcl]
      intro p1 ep1
      rw [nxF_p p1 p0]
      refine mBres_l e.symm ?_
      refine kG rfl (Nat.le_of_ble_eq_true rfl) (Nat.le_of_ble_eq_true rfl) rfl ?_
      rw [a1]
      have nr := new_rel (P := zPT) (Pm := zPT) (S := zST) (Sm := zST) (Cc := zCT) (Ccm := zCT) (Y := zYT) (V := zVT) (D := zDT) (Dm := zDT) a2 rfl rfl
      exact m3_1 hC (congrArg nI a2.2.2.2.2.2.2.2.1.1) (rn_ok0 hN hK (k _ _ _ (rw1 ⟨Nat.zero_le _, hJ.2.1, by rw [if_neg (by decide)], Or.inl rfl, by decide, by decide⟩ a2 nr.1 nr.2.1 nr.2.2.1 nr.2.2.2.1 nr.2.2.2.2) (Nat.le_refl _) (Nat.le_refl _)))
    · intro Z1 e p a1 a2 e9
      dsimp only
      rw [if_neg (by decide)]
      refine kS (Or.inr rfl) ?_
      refine m2_1 hC hL hi ?_
      refine cH hM (coL_28_n l) dcL_294 (by decide) (by decide) rfl ⟨_, rfl⟩ [.int (xs (i + 1))] [_] (by omega) (by omega) rfl rfl (by exact Nat.le_of_ble_eq_true rfl) ?_
      refine ⟨_, _, _, _, _, _, _, _, _, _, _, _, _, _, _, _, _, _, _, _, _, _, _, _, _, _, _, _, rfl, rfl, hf, hJ.1, ?_⟩
      rw [if_pos c1, hcl]
      intro p1 ep1
      rw [nxF_p p1 p0]
      refine mBres_r e9.symm ?_
      intro Q2 B9 R9 L9 G9
      refine kG rfl (Nat.le_of_ble_eq_true rfl) (Nat.le_of_ble_eq_true rfl) rfl ?_
      rw [a1]
      exact m3_1 hC rfl (rn_bad0 hN hK (k _ _ _ (rw0 ⟨Nat.zero_le _, hJ.2.1, by rw [if_pos rfl]; exact a2.symm, Or.inr rfl, by decide, by decide⟩ (Or.inr rfl)) (Nat.le_refl _) (Nat.le_refl _)))
  · next c1 =>
    refine kS hJ.2.2.2.1 ?_
    refine m2_1 hC hL hi ?_
    refine cH hM (coL_28_n l) dcL_294 (by decide) (by decide) rfl ⟨_, rfl⟩ [.int (xs (i + 1))] [_] (by omega) (by omega) rfl rfl (by exact Nat.le_of_ble_eq_true rfl) ?_
    refine ⟨_, _, _, _, _, _, _, _, _, _, _, _, _, _, _, _, _, _, _, _, _, _, _, _, _, _, _, _, rfl, rfl, hf, hJ.1, ?_⟩
    rw [if_neg c1]
    refine kA hf ?_
    exact m3_1 hC rfl (k _ _ _ (rw0 (rJ_tr hJ (by decide)) hf) (Nat.le_refl _) (Nat.le_refl _))
end O0d

