def lwK (C : q_N) : Prop := ∀ (pc : Nat) (lv : q_L) (st : List Value) (aw aw2 : List q_C) (ca sl : Nat), (∀ (cy : Nat → ClassId) (ad xd : Nat → Nat), ∃ xd2 : Nat → Nat, (∀ e, e < 100 → xd2 e = xd e) ∧ lv.map (q_cp ad xd2) = lv.map (q_cp ad xd) ∧ st.map (q_cv ad xd2) = st.map (q_cv ad xd) ∧ aw2.map (q_cE cy ad xd2) = aw.map (q_cE cy ad xd)) → C pc lv st aw2 ca sl → C pc lv st aw ca sl
theorem q_cw_map {cy : Nat → ClassId} {ad xd xd2 : Nat → Nat} : ∀ (l l2 : List q_C) (i : Nat), l2.map (q_cE cy ad xd2) = l.map (q_cE cy ad xd) → q_cw cy ad xd2 i l2 = q_cw cy ad xd i l
  | [], [], i, _ => rfl
  | [], c :: l2, i, h => by cases h
  | c :: l, [], i, h => by cases h
  | c :: l, c2 :: l2, i, h => by
    rw [List.map_cons, List.map_cons] at h
    obtain ⟨h1, h2⟩ := List.cons.inj h
    rw [q_cw, q_cw, h1, q_cw_map l l2 (i + 1) h2]
theorem lwK_ok {p : Program} {l : Launch} {e : Env} {R : Room} {s : State} {m : MethodId} {args : Array Value} {below : List Frame} {meth : Method} {c : Code} {D : va_G} {cy : Nat → ClassId} {xd : Nat → Nat} {A : Nat → Prop} {ad0 : Nat → Nat} {Q : State → Prop} : lwK (lwC p l e R s m args below meth c D cy xd A ad0 Q) := by
  intro pc lv st aw aw2 ca sl h hC xd' he hca hsl ad ls H locs hn0 had hlv hP hD hS
  obtain ⟨xd2, h1, h2, h3, h4⟩ := h cy ad xd'
  have h5 := q_cw_map (ad := ad) aw aw2 0 h4
  have := hC xd2 (fun e h => (h1 e h).trans (he e h)) hca hsl ad ls H locs (Nat.zero_le _) (fun i hi => absurd hi (Nat.not_lt_zero i)) (by rw [h2]; exact hlv) (by rw [h5]; exact hP) (by rw [h5]; exact hD) hS
  rw [h3] at this
  exact this
theorem nxF_p {tx : Nat → Int32} {n : Nat} {so nu : Int32} {wd : Int64} (p0 p1 : Nat) : nxF tx n (0, so, p0, nu, wd) = nxF tx n (0, so, p1, nu, wd) := by
  unfold nxF nxS
  rfl
theorem inT {x : Int32} {tl : Nat} (htl : tl ≤ 700) (h : 0 ≤ x ∧ x ≤ nI tl) : ∃ n, x = nI n ∧ n ≤ tl ∧ x.toNatClampNeg = n := by
  obtain ⟨n, e, hn⟩ := inI (x := x) (n := tl + 1) (by omega) ⟨h.1, by
    have h2 := h.2
    rw [Int32.le_iff_toInt_le, nI_toInt (by omega)] at h2
    rw [Int32.lt_iff_toInt_lt, nI_toInt (by omega)]
    omega⟩
  exact ⟨n, e, by omega, by rw [e, nI_clamp (by omega)]⟩
section WH
variable {l : Launch} {C : q_N} {th : Int32} {tr : Int32} {wh : Int32} {fa : Int32} {ta : Nat} {sz : Int32} {ix : Int32} {so : Int32} {pl : Int32} {nu : Int32} {wd : Int64} {td : Int32} {mk : Int32} {mo : Int32} {tx : Nat → Int32} {P : PT} {D : DT} {ea : Nat → Int32} {pa : Nat → Int32} {co : Nat → Int32} {S : ST} {Cc : CT} {V : VT} {ba : Nat → Int32} {B : BT} {R : RT} {L : LT} {G : GT} {sk sp : Int32} {f : Nat → Int64}
set_option maxRecDepth 100000
theorem wH_in (w X : List q_C) : w ++ (oW f ++ sT X) = (w ++ oW f) ++ X.map (q_sftT 104 none) ++ [] := by
  rw [List.append_nil, List.append_assoc]
theorem cH (hM : lwM l C) {idx pc n d mL mc ms : Nat} {fd : List (Nat ⊕ (Nat × Nat))} {spc : q_P} (hco : q_CO l RL idx (n, 14, d, mL, mc, ms, fd, spc)) (hdc : decode cL_law pc = .ok (.invokevirtual idx, 3)) (h19 : d ≤ 19) (h45 : mL ≤ 45) {w X : List q_C} (hw : w.length = 103) (h0 : ∃ fs, X[0]? = some (.inr (14, fs))) {lv : q_L} (as rest : List Value) {ca sl : Nat} (hca : ca + mc ≤ 601024) (hsl : sl + ms ≤ 7293034) (hn : as.length + 1 = n) (has : as.map (q_svT 104 none) = as) (hcat : q_cats rest ≤ 8) (h : spc (.ref 0 :: as) X (kB C pc lv rest none (w ++ oW f) X [] (ca + mc) (sl + ms))) : C pc lv (as.reverse ++ .ref 104 :: rest) (w ++ (oW f ++ sT X)) ca sl := by
  rw [wH_in]
  exact hM idx pc n d mL mc ms fd spc hco hdc h19 h45 none (w ++ oW f) _ [] lv as rest ca sl hn has (by rw [List.length_append, hw]; rfl) h0 hcat hca hsl h
theorem kH {frq : Value} {th' : Int32} {tr' : Int32} {wh' : Int32} {fa' : Int32} {ta' : Nat} {sz' : Int32} {ix' : Int32} {so' : Int32} {pl' : Int32} {nu' : Int32} {wd' : Int64} {td' : Int32} {mk' : Int32} {mo' : Int32} {tx' : Nat → Int32} {P' : PT} {D' : DT} {ea' : Nat → Int32} {pa' : Nat → Int32} {co' : Nat → Int32} {S' : ST} {Cc' : CT} {V' : VT} {ba' : Nat → Int32} {B' : BT} {R' : RT} {L' : LT} {G' : GT} {sk' sp' : Int32} (hf : frq = tk 0 5 ∨ frq = .ref 31) {pc ca sl : Nat} {lv : q_L} {rest : List Value} {w : List q_C} {v : Int32} (k : C (pc + 3) lv (.int v :: rest) (w ++ (oW f ++ sT (modelH frq th' tr' wh' fa' ta' sz' ix' so' pl' nu' wd' td' mk' mo' tx' P' D' ea' pa' co' S' Cc' V' ba' B' R' L' G' sk' sp'))) ca sl) : kB C pc lv rest none (w ++ oW f) (modelH (tk 0 5) th tr wh fa ta sz ix so pl nu wd td mk mo tx P D ea pa co S Cc V ba B R L G sk sp) [] ca sl (.inl (some (.int v))) (modelH frq th' tr' wh' fa' ta' sz' ix' so' pl' nu' wd' td' mk' mo' tx' P' D' ea' pa' co' S' Cc' V' ba' B' R' L' G' sk' sp') := by
  rw [wH_in] at k
  rcases hf with rfl | rfl
  · exact ⟨Or.inl rfl, rfl, k⟩
  · exact ⟨Or.inl rfl, rfl, k⟩
end WH
section RT
variable {C : q_N} {i ca sl : Nat} {tl : Nat} {td : Int32} {tr : Int32} {lf : Int32} {tx : Nat → Int32} {N : NT} {B : BT} {R : RT} {L : LT} {G : GT} {B2 : BT} {R2 : RT} {L2 : LT} {G2 : GT} {P : PT} {W : WT} {S : ST} {Cc : CT} {Y : YT} {D : DT} {th : Int32} {wh : Int32} {sz : Int32} {ix : Int32} {so : Int32} {pl : Int32} {nu : Int32} {wd : Int64} {ea : Nat → Int32} {pa : Nat → Int32} {co : Nat → Int32} {V : VT} {ba : Nat → Int32} {sk sp : Int32} {Pm : PT} {Dm : DT} {Sm : ST} {Ccm : CT} {Bm : BT} {Rm : RT} {Lm : LT} {Gm : GT} {f : Nat → Int64}
set_option maxRecDepth 100000
theorem retok (hK : lwK C) (h : C 23 (LVL i) [] ((stripW 0 tl true td tr lf tx (.ref 2) N B R L G B2 R2 L2 G2 P W S Cc Y D) ++ (oW f ++ sT (modelH (tk 0 5) th tr wh lf tl sz ix so pl nu wd td (-1) (-1) tx Pm Dm ea pa co Sm Ccm V ba Bm Rm Lm Gm sk sp))) ca sl) : C 23 (LVL i) [] ((stripW 0 tl true td tr lf tx (.ref 2) N B R L G B2 R2 L2 G2 P W S Cc Y D) ++ (oW f ++ sT (modelH (.ref 31) th tr wh lf tl sz ix so pl nu wd td (-1) (-1) tx Pm Dm ea pa co Sm Ccm V ba Bm Rm Lm Gm sk sp))) ca sl :=
  hK _ _ _ _ _ _ _ (fun cy ad xd => ⟨fun e => if e = 105 then ad 135 else xd e, fun e he => if_neg (by omega), rfl, rfl, rfl⟩) h
end RT
section O1
variable {l : Launch} {Ls i ca sl : Nat} {xs : Nat → Int32} {z : q_K} {C : q_N} {tl : Nat} {td : Int32} {tr : Int32} {lf : Int32} {tx : Nat → Int32} {rb : Value} {N : NT} {B : BT} {R : RT} {L : LT} {G : GT} {B2 : BT} {R2 : RT} {L2 : LT} {G2 : GT} {P : PT} {W : WT} {S : ST} {Cc : CT} {Y : YT} {D : DT} {th : Int32} {wh : Int32} {sz : Int32} {ix : Int32} {so : Int32} {pl : Int32} {nu : Int32} {wd : Int64} {ea : Nat → Int32} {pa : Nat → Int32} {co : Nat → Int32} {V : VT} {ba : Nat → Int32} {sk sp : Int32} {Pm : PT} {Dm : DT} {Sm : ST} {Ccm : CT} {Bm : BT} {Rm : RT} {Lm : LT} {Gm : GT} {f : Nat → Int64}
set_option maxRecDepth 100000
theorem bk_laws {L1 M1 : LT} (hB : bkR B R L G Bm Rm Lm Gm) (h1 : lAg L1 M1) (h2 : lUn L1) (h3 : L_n L1 ≤ 24) : bkR B R L1 G Bm Rm M1 Gm := by
  obtain ⟨bA, bN, bI, bX, rA, rO, rI, lA, lU, l24, gR⟩ := hB
  exact ⟨bA, bN, bI, bX, rA, rO, rI, h1, h2, h3, gR⟩
theorem lC_ag {L1 M1 : LT} (h : lAg L Lm) (hu : lUn L) (h1 : lPre L L1) (h2 : lPre Lm M1) : lAg (lawsC L1 (L_n L)) (lawsC M1 (L_n Lm)) ∧ lUn (lawsC L1 (L_n L)) := by
  refine ⟨⟨h.1, fun i hi => ?_⟩, fun i hi => ?_⟩
  · have hi : i < L_n L := hi
    obtain ⟨a1, a2, a3, a4, a5, a6, a7⟩ := h1.2 i hi
    obtain ⟨b1, b2, b3, b4, b5, b6, b7⟩ := h2.2 i (by rw [← h.1]; exact hi)
    have := h.2 i hi
    show L1.1 i = M1.1 i ∧ L1.2.1 i = M1.2.1 i ∧ L1.2.2.1 i = M1.2.2.1 i ∧ L1.2.2.2.1 i = M1.2.2.2.1 i ∧ L1.2.2.2.2.1 i = M1.2.2.2.2.1 i ∧ (L1.2.2.2.2.2.1 i = M1.2.2.2.2.2.1 i ∨ (L1.2.2.2.2.2.1 i = 999 ∧ M1.2.2.2.2.2.1 i = 1000000)) ∧ L1.2.2.2.2.2.2.1 i = M1.2.2.2.2.2.2.1 i
    rw [a1, a2, a3, a4, a5, a6, a7, b1, b2, b3, b4, b5, b6, b7]
    exact this
  · have hi : i < L_n L := hi
    show L1.2.2.2.2.2.1 i ≤ 999
    rw [(h1.2 i hi).2.2.2.2.2.1]
    exact hu i hi
theorem o1_2 (hR : lwR l Ls xs z C) (hK : lwK C) (hL : Ls ≤ 3072) (hi : i + 6 ≤ Ls) (hca : ca + 26 ≤ 601024) (hsl : sl + 608 ≤ 7293034) (hJ : rJ tl td tr tx rb N wh) (hB : bkR B R L G Bm Rm Lm Gm) (hP : rP B P Pm) (hS : rS S Sm) (hC2 : rC Cc Ccm) (hY : rY Y V) (hD : rD P D Dm) (k : ∀ aw ca' sl', RW aw → ca' ≤ ca + 26 → sl' ≤ sl + 608 → C 23 (LVL (i + 6)) [] aw ca' sl') : C 302 (LVL i) [] ((stripW 0 tl true td tr lf tx rb N B R L G B2 R2 L2 G2 P W S Cc Y D) ++ (oW f ++ sT (modelH (tk 0 5) th tr wh lf tl sz ix so pl nu wd td (-1) (-1) tx Pm Dm ea pa co Sm Ccm V ba Bm Rm Lm Gm sk sp))) ca sl := by
  obtain ⟨hC, hSt, hM, -, -⟩ := hR
  obtain ⟨bA, bN, bI, ⟨t0, bt0, bt8, brX⟩, rA, rO, rI, lA, lU, l24, gA, gO, gG, gI⟩ := id hB
  obtain ⟨⟨n0, pn, pn8, pP⟩, pA, pO, pD⟩ := id hP
  obtain rfl : n0 = t0 := nI_inj (by omega) (by omega) (pn.symm.trans bt0)
  have rE := rEnd_g brX.1
  obtain ⟨u0, u1, u2, u3, -, b1, b2, b3, -, b15, b26, b36, -⟩ := id bI
  have q0 := told_m bA (s := 0) (by decide)
  have q1 := told_m bA (s := 1) (by decide)
  have q3 := told_m bA (s := 3) (by decide)
  have qs := sort_m bA
  have qr := rul_m bA
  have qp := per_m pA
  have qt := trv_m bA pA
  have qd := pdy_m pA
  have qc := con_m hD.1
  have z1 : Pm.2.2.2.2.2.2 = P.2.2.2.2.2.2 := pA.1.symm
  have z2 : Sm.2.2.2.2.2.1 = S.2.2.2.2.2.1 := hS.1.1.symm
  have z3 : Ccm.2.2.2.2.2.2.2 = Cc.2.2.2.2.2.2.2 := hC2.1.1.symm
  have z4 : Rm.2.2.2.2.2.2.2 = R.2.2.2.2.2.2.2 := rA.1.symm
  refine m1_2 hC hL hi ?_
  refine hSt 29 309 2 10 4 _ _ (coL_29 l) dcL_309 (by decide) (by decide) _ _ _ [.int (xs (i + 1))] [] _ _ rfl rfl rfl ⟨_, rfl⟩ (by decide) ?_
  refine ⟨_, _, _, _, _, _, _, _, _, _, _, _, _, _, _, _, _, _, _, _, _, _, _, rfl, rfl, hJ.1, hJ.2.2.2.1, bInv_le bI, rO, l24, gO, ?_⟩
  rw [if_pos rfl]
  split
  · next c1 =>
    obtain ⟨n, en, hn, hcl⟩ := inT hJ.1 c1
    obtain ⟨p0, ep⟩ := nI_sur pl
    rw [hcl]
    refine laws_sim (Φ := fun (a : Prop) (b : (QT × LT) ⊕ (Int32 × Nat)) => b = mLres tx n td Bm (n + 1) (nxF tx n (0, so, p0, nu, wd)) Lm → a) (k' := fun Q L => .inl (Q, L)) (kf := fun e p => .inr (e, p)) (so := so) (nu := nu) (p0 := p0) (wd := wd) hJ.2.1 (by have := hJ.1; omega) bA bN bI lA lU l24 ?_ ?_ rfl
    · intro N1 Q1 L1 M1 a1 a2 a3 a4 a5 e
      dsimp only
      rw [if_pos rfl]
      refine kS (Or.inl rfl) ?_
      refine m2_2 hC hL hi ?_
      refine cH hM (coL_32 l) dcL_319 (by decide) (by decide) rfl ⟨_, rfl⟩ [.int (xs (i + 1))] [_] (by omega) (by omega) rfl rfl (by exact Nat.le_of_ble_eq_true rfl) ?_
      refine ⟨.null, _, _, _, _, _, _, _, _, _, _, _, _, _, _, _, _, _, _, _, _, _, _, _, _, _, _, _, _, _, _, _, rfl, rfl, rfl, hJ.1, (by rw [← bA.2.1]; exact bInv_le bI), (l24_m lA l24), ?_⟩
      rw [if_pos c1, hcl]
      intro p1 ep1
      rw [nxF_p p1 p0]
      refine mLres_l e.symm ?_
      refine kH (Or.inr rfl) ?_
      rw [a1]
      exact m3_2 hC (congrArg nI a2.1) (retok hK (k _ _ _ (rw1 ⟨Nat.zero_le _, hJ.2.1, by rw [if_neg (by decide)], Or.inl rfl, hJ.2.2.2.2⟩ (bk_laws hB a2 a3 a4) hP hS hC2 hY hD) (by omega) (by omega)))
    · intro N1 L1 e p a1 a2 a3 e9
      dsimp only
      rw [if_neg (by decide)]
      refine kS (Or.inl rfl) ?_
      refine m2_2 hC hL hi ?_
      refine cH hM (coL_32 l) dcL_319 (by decide) (by decide) rfl ⟨_, rfl⟩ [.int (xs (i + 1))] [_] (by omega) (by omega) rfl rfl (by exact Nat.le_of_ble_eq_true rfl) ?_
      refine ⟨.null, _, _, _, _, _, _, _, _, _, _, _, _, _, _, _, _, _, _, _, _, _, _, _, _, _, _, _, _, _, _, _, rfl, rfl, rfl, hJ.1, (by rw [← bA.2.1]; exact bInv_le bI), (l24_m lA l24), ?_⟩
      rw [if_pos c1, hcl]
      intro p1 ep1
      rw [nxF_p p1 p0]
      refine mLres_r e9.symm ?_
      intro Q2 L2 hpre
      refine kH (Or.inr rfl) ?_
      rw [a1]
      exact m3_2 hC rfl (retok hK (k _ _ _ (rw1 ⟨Nat.zero_le _, hJ.2.1, by rw [if_pos rfl]; exact a2.symm, Or.inl rfl, hJ.2.2.2.2⟩ (bk_laws hB (lC_ag lA lU a3 hpre).1 (lC_ag lA lU a3 hpre).2 l24) hP hS hC2 hY hD) (by omega) (by omega)))
  · next c1 =>
    refine kS hJ.2.2.2.1 ?_
    refine m2_2 hC hL hi ?_
    refine cH hM (coL_32 l) dcL_319 (by decide) (by decide) rfl ⟨_, rfl⟩ [.int (xs (i + 1))] [_] (by omega) (by omega) rfl rfl (by exact Nat.le_of_ble_eq_true rfl) ?_
    refine ⟨.null, _, _, _, _, _, _, _, _, _, _, _, _, _, _, _, _, _, _, _, _, _, _, _, _, _, _, _, _, _, _, _, rfl, rfl, rfl, hJ.1, (by rw [← bA.2.1]; exact bInv_le bI), (l24_m lA l24), ?_⟩
    rw [if_neg c1]
    refine kH (Or.inl rfl) ?_
    exact m3_2 hC rfl (k _ _ _ (rw1 (rJ_tr hJ (by decide)) hB hP hS hC2 hY hD) (by omega) (by omega))
end O1

