abbrev LVL (i : Nat) : q_L := [(0, .retAddr 90), (1, .ref 0), (2, .ref 104), (3, .ref 103), (4, .int (nI i))]
abbrev lwGo (L : Nat) (xs : Nat → Int32) (z : q_K) (C : q_N) : Prop := ∀ (t : List q_I) (cuts : List (Nat × List Nat)), t.all (q_okI cL_law) = true → ∀ pc lv st aw ca sl, q_go (EL t cuts L xs) C z pc lv st aw ca sl → C pc lv st aw ca sl
theorem lx {L i k : Nat} {K : Int32} (hK : K = nI k) (hL : L ≤ 3072) (hi : i + 6 ≤ L) (hk : k < 6) : vp_in (nI i + K) L := by
  rw [hK, nI_add]; exact vp_in_nI (by omega) (by omega)
theorem lxc {L i k : Nat} {K : Int32} (hK : K = nI k) (hL : L ≤ 3072) (hi : i + 6 ≤ L) (hk : k < 6) : (nI i + K).toNatClampNeg = i + k := by
  rw [hK, nI_add]; exact nI_clamp (by omega)
section LAW2
variable {L : Nat} {xs : Nat → Int32} {z : q_K} {C : q_N} {i ca sl : Nat} {w : List q_C}
set_option maxRecDepth 100000
theorem lw_next (hC : lwGo L xs z C) (h : C 23 (LVL (i + 6)) [] w ca sl) : C 1714 (LVL i) [] w ca sl := by
  refine hC tL_next [(23, [0, 1, 2, 3, 4])] tL_next_ok _ _ _ _ _ _ ?_
  show C 23 [(0, .retAddr 90), (1, .ref 0), (2, .ref 104), (3, .ref 103), (4, .int (nI i + 6))] [] w ca sl
  rw [show nI i + 6 = nI (i + 6) from nI_add i 6]
  exact h
theorem lw_end (hC : lwGo L xs z C) (hL : L ≤ 3072) (hi : L < i + 6) (hi2 : i ≤ 3072) (h : z (.inl (some (.int 1))) w) : C 23 (LVL i) [] w ca sl := by
  refine hC tL_he [] tL_he_ok _ _ _ _ _ _ ⟨fun _ => ⟨by decide, h⟩, fun c => ?_⟩
  exfalso
  have c : ¬ nI L - 6 < nI i := c
  refine c ?_
  rw [Int32.lt_iff_toInt_lt]
  have e1 : (nI L - 6).toInt = (L : Int) - 6 := by
    rw [Int32.toInt_sub, nI_toInt (by omega)]
    have : (6 : Int32).toInt = 6 := by decide
    rw [this, Int.bmod_eq_of_le (by omega) (by omega)]
  rw [e1, nI_toInt (by omega)]
  omega
theorem lw_head (hC : lwGo L xs z C) (hL : L ≤ 3072) (hi : i + 6 ≤ L) (h0 : C 1714 (LVL i) [] w ca sl) (h : ∀ k t : Nat, [204, 277, 302, 327, 340, 353, 378, 451, 524, 549, 622, 671, 708, 757, 794, 843, 892, 941, 978, 1015, 1064, 1113, 1126, 1151, 1224, 1285, 1334, 1371, 1408, 1421, 1446, 1483, 1521, 1558, 1584, 1676, 1701][k]? = some t → C t (LVL i) [] w ca sl) : C 23 (LVL i) [] w ca sl := by
  refine hC tL_head [(1714, [0, 1, 2, 3, 4]), (1720, [0, 1, 2, 3, 4]), (204, [0, 1, 2, 3, 4]), (277, [0, 1, 2, 3, 4]), (302, [0, 1, 2, 3, 4]), (327, [0, 1, 2, 3, 4]), (340, [0, 1, 2, 3, 4]), (353, [0, 1, 2, 3, 4]), (378, [0, 1, 2, 3, 4]), (451, [0, 1, 2, 3, 4]), (524, [0, 1, 2, 3, 4]), (549, [0, 1, 2, 3, 4]), (622, [0, 1, 2, 3, 4]), (671, [0, 1, 2, 3, 4]), (708, [0, 1, 2, 3, 4]), (757, [0, 1, 2, 3, 4]), (794, [0, 1, 2, 3, 4]), (843, [0, 1, 2, 3, 4]), (892, [0, 1, 2, 3, 4]), (941, [0, 1, 2, 3, 4]), (978, [0, 1, 2, 3, 4]), (1015, [0, 1, 2, 3, 4]), (1064, [0, 1, 2, 3, 4]), (1113, [0, 1, 2, 3, 4]), (1126, [0, 1, 2, 3, 4]), (1151, [0, 1, 2, 3, 4]), (1224, [0, 1, 2, 3, 4]), (1285, [0, 1, 2, 3, 4]), (1334, [0, 1, 2, 3, 4]), (1371, [0, 1, 2, 3, 4]), (1408, [0, 1, 2, 3, 4]), (1421, [0, 1, 2, 3, 4]), (1446, [0, 1, 2, 3, 4]), (1483, [0, 1, 2, 3, 4]), (1521, [0, 1, 2, 3, 4]), (1558, [0, 1, 2, 3, 4]), (1584, [0, 1, 2, 3, 4]), (1676, [0, 1, 2, 3, 4]), (1701, [0, 1, 2, 3, 4])] tL_head_ok _ _ _ _ _ _ ⟨fun c => ?_, fun _ => ?_⟩
  · exfalso
    have c : nI L - 6 < nI i := c
    rw [show (6 : Int32) = nI 6 from rfl, nI_sb (by omega) (by omega), nI_ltI (by omega) (by omega)] at c
    omega
  · refine ⟨vp_in_nI (by omega) (by omega), ?_⟩
    refine ⟨fun _ => h0, ?_, by decide, by decide, by decide⟩
    exact ⟨fun _ => h 0 _ rfl, fun _ => h 1 _ rfl, fun _ => h 2 _ rfl, fun _ => h 3 _ rfl, fun _ => h 4 _ rfl, fun _ => h 5 _ rfl, fun _ => h 6 _ rfl, fun _ => h 7 _ rfl, fun _ => h 8 _ rfl, fun _ => h 9 _ rfl, fun _ => h 10 _ rfl, fun _ => h 11 _ rfl, fun _ => h 12 _ rfl, fun _ => h 13 _ rfl, fun _ => h 14 _ rfl, fun _ => h 15 _ rfl, fun _ => h 16 _ rfl, fun _ => h 17 _ rfl, fun _ => h 18 _ rfl, fun _ => h 19 _ rfl, fun _ => h 20 _ rfl, fun _ => h 21 _ rfl, fun _ => h 22 _ rfl, fun _ => h 23 _ rfl, fun _ => h 24 _ rfl, fun _ => h 25 _ rfl, fun _ => h 26 _ rfl, fun _ => h 27 _ rfl, fun _ => h 28 _ rfl, fun _ => h 29 _ rfl, fun _ => h 30 _ rfl, fun _ => h 31 _ rfl, fun _ => h 32 _ rfl, fun _ => h 33 _ rfl, fun _ => h 34 _ rfl, fun _ => h 35 _ rfl, fun _ => h 36 _ rfl, trivial⟩
theorem m1_0 (hC : lwGo L xs z C) (hL : L ≤ 3072) (hi : i + 6 ≤ L) (h : C 235 (LVL i) [.int (xs (i + 5)), .int (xs (i + 4)), .int (xs (i + 3)), .int (xs (i + 2)), .int (xs (i + 1)), .ref 0] w ca sl) : C 204 (LVL i) [] w ca sl := by
  have e1 := lxc (k := 1) (K := 1) rfl hL hi (by decide)
  have e2 := lxc (k := 2) (K := 2) rfl hL hi (by decide)
  have e3 := lxc (k := 3) (K := 3) rfl hL hi (by decide)
  have e4 := lxc (k := 4) (K := 4) rfl hL hi (by decide)
  have e5 := lxc (k := 5) (K := 5) rfl hL hi (by decide)
  refine hC tL_m1_0 [(235, [0, 1, 2, 3, 4])] tL_m1_0_ok _ _ _ _ _ _ ?_
  refine ⟨lx (k := 1) rfl hL hi (by decide), lx (k := 2) rfl hL hi (by decide), lx (k := 3) rfl hL hi (by decide), lx (k := 4) rfl hL hi (by decide), lx (k := 5) rfl hL hi (by decide), ?_⟩
  show C 235 (LVL i) [.int (xs (nI i + 5).toNatClampNeg), .int (xs (nI i + 4).toNatClampNeg), .int (xs (nI i + 3).toNatClampNeg), .int (xs (nI i + 2).toNatClampNeg), .int (xs (nI i + 1).toNatClampNeg), .ref 0] w ca sl
  rw [e1, e2, e3, e4, e5]
  exact h
theorem m2_0 {r : Value} (hC : lwGo L xs z C) (hL : L ≤ 3072) (hi : i + 6 ≤ L) (h : C 269 (LVL i) [.int (xs (i + 5)), .int (xs (i + 4)), .int (xs (i + 3)), .int (xs (i + 2)), .int (xs (i + 1)), .ref 104, r] w ca sl) : C 238 (LVL i) [r] w ca sl := by
  have e1 := lxc (k := 1) (K := 1) rfl hL hi (by decide)
  have e2 := lxc (k := 2) (K := 2) rfl hL hi (by decide)
  have e3 := lxc (k := 3) (K := 3) rfl hL hi (by decide)
  have e4 := lxc (k := 4) (K := 4) rfl hL hi (by decide)
  have e5 := lxc (k := 5) (K := 5) rfl hL hi (by decide)
  refine hC tL_m2_0 [(269, [0, 1, 2, 3, 4])] tL_m2_0_ok _ _ _ _ _ _ ?_
  refine ⟨lx (k := 1) rfl hL hi (by decide), lx (k := 2) rfl hL hi (by decide), lx (k := 3) rfl hL hi (by decide), lx (k := 4) rfl hL hi (by decide), lx (k := 5) rfl hL hi (by decide), ?_⟩
  show C 269 (LVL i) [.int (xs (nI i + 5).toNatClampNeg), .int (xs (nI i + 4).toNatClampNeg), .int (xs (nI i + 3).toNatClampNeg), .int (xs (nI i + 2).toNatClampNeg), .int (xs (nI i + 1).toNatClampNeg), .ref 104, r] w ca sl
  rw [e1, e2, e3, e4, e5]
  exact h
theorem m3_0 {x y : Int32} (hC : lwGo L xs z C) (hxy : x = y) (h : C 23 (LVL (i + 6)) [] w ca sl) : C 272 (LVL i) [.int y, .int x] w ca sl :=
  hC tL_m3_0 [(1714, [0, 1, 2, 3, 4])] tL_m3_0_ok _ _ _ _ _ _ ⟨fun _ => lw_next hC h, fun c => absurd hxy c⟩
theorem m1_1 (hC : lwGo L xs z C) (hL : L ≤ 3072) (hi : i + 6 ≤ L) (h : C 284 (LVL i) [.int (xs (i + 1)), .ref 0] w ca sl) : C 277 (LVL i) [] w ca sl := by
  have e1 := lxc (k := 1) (K := 1) rfl hL hi (by decide)
  refine hC tL_m1_1 [(284, [0, 1, 2, 3, 4])] tL_m1_1_ok _ _ _ _ _ _ ?_
  refine ⟨lx (k := 1) rfl hL hi (by decide), ?_⟩
  show C 284 (LVL i) [.int (xs (nI i + 1).toNatClampNeg), .ref 0] w ca sl
  rw [e1]
  exact h
theorem m2_1 {r : Value} (hC : lwGo L xs z C) (hL : L ≤ 3072) (hi : i + 6 ≤ L) (h : C 294 (LVL i) [.int (xs (i + 1)), .ref 104, r] w ca sl) : C 287 (LVL i) [r] w ca sl := by
  have e1 := lxc (k := 1) (K := 1) rfl hL hi (by decide)
  refine hC tL_m2_1 [(294, [0, 1, 2, 3, 4])] tL_m2_1_ok _ _ _ _ _ _ ?_
  refine ⟨lx (k := 1) rfl hL hi (by decide), ?_⟩
  show C 294 (LVL i) [.int (xs (nI i + 1).toNatClampNeg), .ref 104, r] w ca sl
  rw [e1]
  exact h
theorem m3_1 {x y : Int32} (hC : lwGo L xs z C) (hxy : x = y) (h : C 23 (LVL (i + 6)) [] w ca sl) : C 297 (LVL i) [.int y, .int x] w ca sl :=
  hC tL_m3_1 [(1714, [0, 1, 2, 3, 4])] tL_m3_1_ok _ _ _ _ _ _ ⟨fun _ => lw_next hC h, fun c => absurd hxy c⟩
theorem m1_2 (hC : lwGo L xs z C) (hL : L ≤ 3072) (hi : i + 6 ≤ L) (h : C 309 (LVL i) [.int (xs (i + 1)), .ref 0] w ca sl) : C 302 (LVL i) [] w ca sl := by
  have e1 := lxc (k := 1) (K := 1) rfl hL hi (by decide)
  refine hC tL_m1_2 [(309, [0, 1, 2, 3, 4])] tL_m1_2_ok _ _ _ _ _ _ ?_
  refine ⟨lx (k := 1) rfl hL hi (by decide), ?_⟩
  show C 309 (LVL i) [.int (xs (nI i + 1).toNatClampNeg), .ref 0] w ca sl
  rw [e1]
  exact h
theorem m2_2 {r : Value} (hC : lwGo L xs z C) (hL : L ≤ 3072) (hi : i + 6 ≤ L) (h : C 319 (LVL i) [.int (xs (i + 1)), .ref 104, r] w ca sl) : C 312 (LVL i) [r] w ca sl := by
  have e1 := lxc (k := 1) (K := 1) rfl hL hi (by decide)
  refine hC tL_m2_2 [(319, [0, 1, 2, 3, 4])] tL_m2_2_ok _ _ _ _ _ _ ?_
  refine ⟨lx (k := 1) rfl hL hi (by decide), ?_⟩
  show C 319 (LVL i) [.int (xs (nI i + 1).toNatClampNeg), .ref 104, r] w ca sl
  rw [e1]
  exact h
theorem m3_2 {x y : Int32} (hC : lwGo L xs z C) (hxy : x = y) (h : C 23 (LVL (i + 6)) [] w ca sl) : C 322 (LVL i) [.int y, .int x] w ca sl :=
  hC tL_m3_2 [(1714, [0, 1, 2, 3, 4])] tL_m3_2_ok _ _ _ _ _ _ ⟨fun _ => lw_next hC h, fun c => absurd hxy c⟩
theorem m1_3 (hC : lwGo L xs z C) (hL : L ≤ 3072) (hi : i + 6 ≤ L) (h : C 328 (LVL i) [.ref 0] w ca sl) : C 327 (LVL i) [] w ca sl := by
  refine hC tL_m1_3 [(328, [0, 1, 2, 3, 4])] tL_m1_3_ok _ _ _ _ _ _ ?_
  show C 328 (LVL i) [.ref 0] w ca sl
  exact h
theorem m2_3 {r : Value} (hC : lwGo L xs z C) (hL : L ≤ 3072) (hi : i + 6 ≤ L) (h : C 332 (LVL i) [.ref 104, r] w ca sl) : C 331 (LVL i) [r] w ca sl := by
  refine hC tL_m2_3 [(332, [0, 1, 2, 3, 4])] tL_m2_3_ok _ _ _ _ _ _ ?_
  show C 332 (LVL i) [.ref 104, r] w ca sl
  exact h
theorem m3_3 {x y : Int32} (hC : lwGo L xs z C) (hxy : x = y) (h : C 23 (LVL (i + 6)) [] w ca sl) : C 335 (LVL i) [.int y, .int x] w ca sl :=
  hC tL_m3_3 [(1714, [0, 1, 2, 3, 4])] tL_m3_3_ok _ _ _ _ _ _ ⟨fun _ => lw_next hC h, fun c => absurd hxy c⟩
theorem m1_4 (hC : lwGo L xs z C) (hL : L ≤ 3072) (hi : i + 6 ≤ L) (h : C 341 (LVL i) [.ref 0] w ca sl) : C 340 (LVL i) [] w ca sl := by
  refine hC tL_m1_4 [(341, [0, 1, 2, 3, 4])] tL_m1_4_ok _ _ _ _ _ _ ?_
  show C 341 (LVL i) [.ref 0] w ca sl
  exact h
theorem m2_4 {r : Value} (hC : lwGo L xs z C) (hL : L ≤ 3072) (hi : i + 6 ≤ L) (h : C 345 (LVL i) [.ref 104, r] w ca sl) : C 344 (LVL i) [r] w ca sl := by
  refine hC tL_m2_4 [(345, [0, 1, 2, 3, 4])] tL_m2_4_ok _ _ _ _ _ _ ?_
  show C 345 (LVL i) [.ref 104, r] w ca sl
  exact h
theorem m3_4 {x y : Int32} (hC : lwGo L xs z C) (hxy : x = y) (h : C 23 (LVL (i + 6)) [] w ca sl) : C 348 (LVL i) [.int y, .int x] w ca sl :=
  hC tL_m3_4 [(1714, [0, 1, 2, 3, 4])] tL_m3_4_ok _ _ _ _ _ _ ⟨fun _ => lw_next hC h, fun c => absurd hxy c⟩
theorem m1_5 (hC : lwGo L xs z C) (hL : L ≤ 3072) (hi : i + 6 ≤ L) (h : C 360 (LVL i) [.int (xs (i + 1)), .ref 0] w ca sl) : C 353 (LVL i) [] w ca sl := by
  have e1 := lxc (k := 1) (K := 1) rfl hL hi (by decide)
  refine hC tL_m1_5 [(360, [0, 1, 2, 3, 4])] tL_m1_5_ok _ _ _ _ _ _ ?_
  refine ⟨lx (k := 1) rfl hL hi (by decide), ?_⟩
  show C 360 (LVL i) [.int (xs (nI i + 1).toNatClampNeg), .ref 0] w ca sl
  rw [e1]
  exact h
theorem m2_5 {r : Value} (hC : lwGo L xs z C) (hL : L ≤ 3072) (hi : i + 6 ≤ L) (h : C 370 (LVL i) [.int (xs (i + 1)), .ref 104, r] w ca sl) : C 363 (LVL i) [r] w ca sl := by
  have e1 := lxc (k := 1) (K := 1) rfl hL hi (by decide)
  refine hC tL_m2_5 [(370, [0, 1, 2, 3, 4])] tL_m2_5_ok _ _ _ _ _ _ ?_
  refine ⟨lx (k := 1) rfl hL hi (by decide), ?_⟩
  show C 370 (LVL i) [.int (xs (nI i + 1).toNatClampNeg), .ref 104, r] w ca sl
  rw [e1]
  exact h
theorem m3_5 {x y : Int32} (hC : lwGo L xs z C) (hxy : x = y) (h : C 23 (LVL (i + 6)) [] w ca sl) : C 373 (LVL i) [.int y, .int x] w ca sl :=
  hC tL_m3_5 [(1714, [0, 1, 2, 3, 4])] tL_m3_5_ok _ _ _ _ _ _ ⟨fun _ => lw_next hC h, fun c => absurd hxy c⟩
theorem m1_6 (hC : lwGo L xs z C) (hL : L ≤ 3072) (hi : i + 6 ≤ L) (h : C 409 (LVL i) [.int (xs (i + 5)), .int (xs (i + 4)), .int (xs (i + 3)), .int (xs (i + 2)), .int (xs (i + 1)), .ref 0] w ca sl) : C 378 (LVL i) [] w ca sl := by
  have e1 := lxc (k := 1) (K := 1) rfl hL hi (by decide)
  have e2 := lxc (k := 2) (K := 2) rfl hL hi (by decide)
  have e3 := lxc (k := 3) (K := 3) rfl hL hi (by decide)
  have e4 := lxc (k := 4) (K := 4) rfl hL hi (by decide)
  have e5 := lxc (k := 5) (K := 5) rfl hL hi (by decide)
  refine hC tL_m1_6 [(409, [0, 1, 2, 3, 4])] tL_m1_6_ok _ _ _ _ _ _ ?_
  refine ⟨lx (k := 1) rfl hL hi (by decide), lx (k := 2) rfl hL hi (by decide), lx (k := 3) rfl hL hi (by decide), lx (k := 4) rfl hL hi (by decide), lx (k := 5) rfl hL hi (by decide), ?_⟩
  show C 409 (LVL i) [.int (xs (nI i + 5).toNatClampNeg), .int (xs (nI i + 4).toNatClampNeg), .int (xs (nI i + 3).toNatClampNeg), .int (xs (nI i + 2).toNatClampNeg), .int (xs (nI i + 1).toNatClampNeg), .ref 0] w ca sl
  rw [e1, e2, e3, e4, e5]
  exact h
theorem m2_6 {r : Value} (hC : lwGo L xs z C) (hL : L ≤ 3072) (hi : i + 6 ≤ L) (h : C 443 (LVL i) [.int (xs (i + 5)), .int (xs (i + 4)), .int (xs (i + 3)), .int (xs (i + 2)), .int (xs (i + 1)), .ref 104, r] w ca sl) : C 412 (LVL i) [r] w ca sl := by
  have e1 := lxc (k := 1) (K := 1) rfl hL hi (by decide)
  have e2 := lxc (k := 2) (K := 2) rfl hL hi (by decide)
  have e3 := lxc (k := 3) (K := 3) rfl hL hi (by decide)
  have e4 := lxc (k := 4) (K := 4) rfl hL hi (by decide)
  have e5 := lxc (k := 5) (K := 5) rfl hL hi (by decide)
  refine hC tL_m2_6 [(443, [0, 1, 2, 3, 4])] tL_m2_6_ok _ _ _ _ _ _ ?_
  refine ⟨lx (k := 1) rfl hL hi (by decide), lx (k := 2) rfl hL hi (by decide), lx (k := 3) rfl hL hi (by decide), lx (k := 4) rfl hL hi (by decide), lx (k := 5) rfl hL hi (by decide), ?_⟩
  show C 443 (LVL i) [.int (xs (nI i + 5).toNatClampNeg), .int (xs (nI i + 4).toNatClampNeg), .int (xs (nI i + 3).toNatClampNeg), .int (xs (nI i + 2).toNatClampNeg), .int (xs (nI i + 1).toNatClampNeg), .ref 104, r] w ca sl
  rw [e1, e2, e3, e4, e5]
  exact h
theorem m3_6 {x y : Int32} (hC : lwGo L xs z C) (hxy : x = y) (h : C 23 (LVL (i + 6)) [] w ca sl) : C 446 (LVL i) [.int y, .int x] w ca sl :=
  hC tL_m3_6 [(1714, [0, 1, 2, 3, 4])] tL_m3_6_ok _ _ _ _ _ _ ⟨fun _ => lw_next hC h, fun c => absurd hxy c⟩
theorem m1_7 (hC : lwGo L xs z C) (hL : L ≤ 3072) (hi : i + 6 ≤ L) (h : C 482 (LVL i) [.int (xs (i + 5)), .int (xs (i + 4)), .int (xs (i + 3)), .int (xs (i + 2)), .int (xs (i + 1)), .ref 0] w ca sl) : C 451 (LVL i) [] w ca sl := by
  have e1 := lxc (k := 1) (K := 1) rfl hL hi (by decide)
  have e2 := lxc (k := 2) (K := 2) rfl hL hi (by decide)
  have e3 := lxc (k := 3) (K := 3) rfl hL hi (by decide)
  have e4 := lxc (k := 4) (K := 4) rfl hL hi (by decide)
  have e5 := lxc (k := 5) (K := 5) rfl hL hi (by decide)
  refine hC tL_m1_7 [(482, [0, 1, 2, 3, 4])] tL_m1_7_ok _ _ _ _ _ _ ?_
  refine ⟨lx (k := 1) rfl hL hi (by decide), lx (k := 2) rfl hL hi (by decide), lx (k := 3) rfl hL hi (by decide), lx (k := 4) rfl hL hi (by decide), lx (k := 5) rfl hL hi (by decide), ?_⟩
  show C 482 (LVL i) [.int (xs (nI i + 5).toNatClampNeg), .int (xs (nI i + 4).toNatClampNeg), .int (xs (nI i + 3).toNatClampNeg), .int (xs (nI i + 2).toNatClampNeg), .int (xs (nI i + 1).toNatClampNeg), .ref 0] w ca sl
  rw [e1, e2, e3, e4, e5]
  exact h
theorem m2_7 {r : Value} (hC : lwGo L xs z C) (hL : L ≤ 3072) (hi : i + 6 ≤ L) (h : C 516 (LVL i) [.int (xs (i + 5)), .int (xs (i + 4)), .int (xs (i + 3)), .int (xs (i + 2)), .int (xs (i + 1)), .ref 104, r] w ca sl) : C 485 (LVL i) [r] w ca sl := by
  have e1 := lxc (k := 1) (K := 1) rfl hL hi (by decide)
  have e2 := lxc (k := 2) (K := 2) rfl hL hi (by decide)
  have e3 := lxc (k := 3) (K := 3) rfl hL hi (by decide)
  have e4 := lxc (k := 4) (K := 4) rfl hL hi (by decide)
  have e5 := lxc (k := 5) (K := 5) rfl hL hi (by decide)
  refine hC tL_m2_7 [(516, [0, 1, 2, 3, 4])] tL_m2_7_ok _ _ _ _ _ _ ?_
  refine ⟨lx (k := 1) rfl hL hi (by decide), lx (k := 2) rfl hL hi (by decide), lx (k := 3) rfl hL hi (by decide), lx (k := 4) rfl hL hi (by decide), lx (k := 5) rfl hL hi (by decide), ?_⟩
  show C 516 (LVL i) [.int (xs (nI i + 5).toNatClampNeg), .int (xs (nI i + 4).toNatClampNeg), .int (xs (nI i + 3).toNatClampNeg), .int (xs (nI i + 2).toNatClampNeg), .int (xs (nI i + 1).toNatClampNeg), .ref 104, r] w ca sl
  rw [e1, e2, e3, e4, e5]
  exact h
theorem m3_7 {x y : Int32} (hC : lwGo L xs z C) (hxy : x = y) (h : C 23 (LVL (i + 6)) [] w ca sl) : C 519 (LVL i) [.int y, .int x] w ca sl :=
  hC tL_m3_7 [(1714, [0, 1, 2, 3, 4])] tL_m3_7_ok _ _ _ _ _ _ ⟨fun _ => lw_next hC h, fun c => absurd hxy c⟩
theorem m1_8 (hC : lwGo L xs z C) (hL : L ≤ 3072) (hi : i + 6 ≤ L) (h : C 531 (LVL i) [.int (xs (i + 1)), .ref 0] w ca sl) : C 524 (LVL i) [] w ca sl := by
  have e1 := lxc (k := 1) (K := 1) rfl hL hi (by decide)
  refine hC tL_m1_8 [(531, [0, 1, 2, 3, 4])] tL_m1_8_ok _ _ _ _ _ _ ?_
  refine ⟨lx (k := 1) rfl hL hi (by decide), ?_⟩
  show C 531 (LVL i) [.int (xs (nI i + 1).toNatClampNeg), .ref 0] w ca sl
  rw [e1]
  exact h
theorem m2_8 {r : Value} (hC : lwGo L xs z C) (hL : L ≤ 3072) (hi : i + 6 ≤ L) (h : C 541 (LVL i) [.int (xs (i + 1)), .ref 104, r] w ca sl) : C 534 (LVL i) [r] w ca sl := by
  have e1 := lxc (k := 1) (K := 1) rfl hL hi (by decide)
  refine hC tL_m2_8 [(541, [0, 1, 2, 3, 4])] tL_m2_8_ok _ _ _ _ _ _ ?_
  refine ⟨lx (k := 1) rfl hL hi (by decide), ?_⟩
  show C 541 (LVL i) [.int (xs (nI i + 1).toNatClampNeg), .ref 104, r] w ca sl
  rw [e1]
  exact h
theorem m3_8 {x y : Int32} (hC : lwGo L xs z C) (hxy : x = y) (h : C 23 (LVL (i + 6)) [] w ca sl) : C 544 (LVL i) [.int y, .int x] w ca sl :=
  hC tL_m3_8 [(1714, [0, 1, 2, 3, 4])] tL_m3_8_ok _ _ _ _ _ _ ⟨fun _ => lw_next hC h, fun c => absurd hxy c⟩
theorem m1_9 (hC : lwGo L xs z C) (hL : L ≤ 3072) (hi : i + 6 ≤ L) (h : C 580 (LVL i) [.int (xs (i + 5)), .int (xs (i + 4)), .int (xs (i + 3)), .int (xs (i + 2)), .int (xs (i + 1)), .ref 0] w ca sl) : C 549 (LVL i) [] w ca sl := by
  have e1 := lxc (k := 1) (K := 1) rfl hL hi (by decide)
  have e2 := lxc (k := 2) (K := 2) rfl hL hi (by decide)
  have e3 := lxc (k := 3) (K := 3) rfl hL hi (by decide)
  have e4 := lxc (k := 4) (K := 4) rfl hL hi (by decide)
  have e5 := lxc (k := 5) (K := 5) rfl hL hi (by decide)
  refine hC tL_m1_9 [(580, [0, 1, 2, 3, 4])] tL_m1_9_ok _ _ _ _ _ _ ?_
  refine ⟨lx (k := 1) rfl hL hi (by decide), lx (k := 2) rfl hL hi (by decide), lx (k := 3) rfl hL hi (by decide), lx (k := 4) rfl hL hi (by decide), lx (k := 5) rfl hL hi (by decide), ?_⟩
  show C 580 (LVL i) [.int (xs (nI i + 5).toNatClampNeg), .int (xs (nI i + 4).toNatClampNeg), .int (xs (nI i + 3).toNatClampNeg), .int (xs (nI i + 2).toNatClampNeg), .int (xs (nI i + 1).toNatClampNeg), .ref 0] w ca sl
  rw [e1, e2, e3, e4, e5]
  exact h
theorem m2_9 {r : Value} (hC : lwGo L xs z C) (hL : L ≤ 3072) (hi : i + 6 ≤ L) (h : C 614 (LVL i) [.int (xs (i + 5)), .int (xs (i + 4)), .int (xs (i + 3)), .int (xs (i + 2)), .int (xs (i + 1)), .ref 104, r] w ca sl) : C 583 (LVL i) [r] w ca sl := by
  have e1 := lxc (k := 1) (K := 1) rfl hL hi (by decide)
  have e2 := lxc (k := 2) (K := 2) rfl hL hi (by decide)
  have e3 := lxc (k := 3) (K := 3) rfl hL hi (by decide)
  have e4 := lxc (k := 4) (K := 4) rfl hL hi (by decide)
  have e5 := lxc (k := 5) (K := 5) rfl hL hi (by decide)
  refine hC tL_m2_9 [(614, [0, 1, 2, 3, 4])] tL_m2_9_ok _ _ _ _ _ _ ?_
  refine ⟨lx (k := 1) rfl hL hi (by decide), lx (k := 2) rfl hL hi (by decide), lx (k := 3) rfl hL hi (by decide), lx (k := 4) rfl hL hi (by decide), lx (k := 5) rfl hL hi (by decide), ?_⟩
  show C 614 (LVL i) [.int (xs (nI i + 5).toNatClampNeg), .int (xs (nI i + 4).toNatClampNeg), .int (xs (nI i + 3).toNatClampNeg), .int (xs (nI i + 2).toNatClampNeg), .int (xs (nI i + 1).toNatClampNeg), .ref 104, r] w ca sl
  rw [e1, e2, e3, e4, e5]
  exact h
theorem m3_9 {x y : Int32} (hC : lwGo L xs z C) (hxy : x = y) (h : C 23 (LVL (i + 6)) [] w ca sl) : C 617 (LVL i) [.int y, .int x] w ca sl :=
  hC tL_m3_9 [(1714, [0, 1, 2, 3, 4])] tL_m3_9_ok _ _ _ _ _ _ ⟨fun _ => lw_next hC h, fun c => absurd hxy c⟩
theorem m1_10 (hC : lwGo L xs z C) (hL : L ≤ 3072) (hi : i + 6 ≤ L) (h : C 641 (LVL i) [.int (xs (i + 3)), .int (xs (i + 2)), .int (xs (i + 1)), .ref 0] w ca sl) : C 622 (LVL i) [] w ca sl := by
  have e1 := lxc (k := 1) (K := 1) rfl hL hi (by decide)
  have e2 := lxc (k := 2) (K := 2) rfl hL hi (by decide)
  have e3 := lxc (k := 3) (K := 3) rfl hL hi (by decide)
  refine hC tL_m1_10 [(641, [0, 1, 2, 3, 4])] tL_m1_10_ok _ _ _ _ _ _ ?_
  refine ⟨lx (k := 1) rfl hL hi (by decide), lx (k := 2) rfl hL hi (by decide), lx (k := 3) rfl hL hi (by decide), ?_⟩
  show C 641 (LVL i) [.int (xs (nI i + 3).toNatClampNeg), .int (xs (nI i + 2).toNatClampNeg), .int (xs (nI i + 1).toNatClampNeg), .ref 0] w ca sl
  rw [e1, e2, e3]
  exact h
theorem m2_10 {r : Value} (hC : lwGo L xs z C) (hL : L ≤ 3072) (hi : i + 6 ≤ L) (h : C 663 (LVL i) [.int (xs (i + 3)), .int (xs (i + 2)), .int (xs (i + 1)), .ref 104, r] w ca sl) : C 644 (LVL i) [r] w ca sl := by
  have e1 := lxc (k := 1) (K := 1) rfl hL hi (by decide)
  have e2 := lxc (k := 2) (K := 2) rfl hL hi (by decide)
  have e3 := lxc (k := 3) (K := 3) rfl hL hi (by decide)
  refine hC tL_m2_10 [(663, [0, 1, 2, 3, 4])] tL_m2_10_ok _ _ _ _ _ _ ?_
  refine ⟨lx (k := 1) rfl hL hi (by decide), lx (k := 2) rfl hL hi (by decide), lx (k := 3) rfl hL hi (by decide), ?_⟩
  show C 663 (LVL i) [.int (xs (nI i + 3).toNatClampNeg), .int (xs (nI i + 2).toNatClampNeg), .int (xs (nI i + 1).toNatClampNeg), .ref 104, r] w ca sl
  rw [e1, e2, e3]
  exact h
theorem m3_10 {x y : Int32} (hC : lwGo L xs z C) (hxy : x = y) (h : C 23 (LVL (i + 6)) [] w ca sl) : C 666 (LVL i) [.int y, .int x] w ca sl :=
  hC tL_m3_10 [(1714, [0, 1, 2, 3, 4])] tL_m3_10_ok _ _ _ _ _ _ ⟨fun _ => lw_next hC h, fun c => absurd hxy c⟩
theorem m1_11 (hC : lwGo L xs z C) (hL : L ≤ 3072) (hi : i + 6 ≤ L) (h : C 684 (LVL i) [.int (xs (i + 2)), .int (xs (i + 1)), .ref 0] w ca sl) : C 671 (LVL i) [] w ca sl := by
  have e1 := lxc (k := 1) (K := 1) rfl hL hi (by decide)
  have e2 := lxc (k := 2) (K := 2) rfl hL hi (by decide)
  refine hC tL_m1_11 [(684, [0, 1, 2, 3, 4])] tL_m1_11_ok _ _ _ _ _ _ ?_
  refine ⟨lx (k := 1) rfl hL hi (by decide), lx (k := 2) rfl hL hi (by decide), ?_⟩
  show C 684 (LVL i) [.int (xs (nI i + 2).toNatClampNeg), .int (xs (nI i + 1).toNatClampNeg), .ref 0] w ca sl
  rw [e1, e2]
  exact h
theorem m2_11 {r : Value} (hC : lwGo L xs z C) (hL : L ≤ 3072) (hi : i + 6 ≤ L) (h : C 700 (LVL i) [.int (xs (i + 2)), .int (xs (i + 1)), .ref 104, r] w ca sl) : C 687 (LVL i) [r] w ca sl := by
  have e1 := lxc (k := 1) (K := 1) rfl hL hi (by decide)
  have e2 := lxc (k := 2) (K := 2) rfl hL hi (by decide)
  refine hC tL_m2_11 [(700, [0, 1, 2, 3, 4])] tL_m2_11_ok _ _ _ _ _ _ ?_
  refine ⟨lx (k := 1) rfl hL hi (by decide), lx (k := 2) rfl hL hi (by decide), ?_⟩
  show C 700 (LVL i) [.int (xs (nI i + 2).toNatClampNeg), .int (xs (nI i + 1).toNatClampNeg), .ref 104, r] w ca sl
  rw [e1, e2]
  exact h
theorem m3_11 {x y : Int32} (hC : lwGo L xs z C) (hxy : x = y) (h : C 23 (LVL (i + 6)) [] w ca sl) : C 703 (LVL i) [.int y, .int x] w ca sl :=
  hC tL_m3_11 [(1714, [0, 1, 2, 3, 4])] tL_m3_11_ok _ _ _ _ _ _ ⟨fun _ => lw_next hC h, fun c => absurd hxy c⟩
theorem m1_12 (hC : lwGo L xs z C) (hL : L ≤ 3072) (hi : i + 6 ≤ L) (h : C 727 (LVL i) [.int (xs (i + 3)), .int (xs (i + 2)), .int (xs (i + 1)), .ref 0] w ca sl) : C 708 (LVL i) [] w ca sl := by
  have e1 := lxc (k := 1) (K := 1) rfl hL hi (by decide)
  have e2 := lxc (k := 2) (K := 2) rfl hL hi (by decide)
  have e3 := lxc (k := 3) (K := 3) rfl hL hi (by decide)
  refine hC tL_m1_12 [(727, [0, 1, 2, 3, 4])] tL_m1_12_ok _ _ _ _ _ _ ?_
  refine ⟨lx (k := 1) rfl hL hi (by decide), lx (k := 2) rfl hL hi (by decide), lx (k := 3) rfl hL hi (by decide), ?_⟩
  show C 727 (LVL i) [.int (xs (nI i + 3).toNatClampNeg), .int (xs (nI i + 2).toNatClampNeg), .int (xs (nI i + 1).toNatClampNeg), .ref 0] w ca sl
  rw [e1, e2, e3]
  exact h
theorem m2_12 {r : Value} (hC : lwGo L xs z C) (hL : L ≤ 3072) (hi : i + 6 ≤ L) (h : C 749 (LVL i) [.int (xs (i + 3)), .int (xs (i + 2)), .int (xs (i + 1)), .ref 104, r] w ca sl) : C 730 (LVL i) [r] w ca sl := by
  have e1 := lxc (k := 1) (K := 1) rfl hL hi (by decide)
  have e2 := lxc (k := 2) (K := 2) rfl hL hi (by decide)
  have e3 := lxc (k := 3) (K := 3) rfl hL hi (by decide)
  refine hC tL_m2_12 [(749, [0, 1, 2, 3, 4])] tL_m2_12_ok _ _ _ _ _ _ ?_
  refine ⟨lx (k := 1) rfl hL hi (by decide), lx (k := 2) rfl hL hi (by decide), lx (k := 3) rfl hL hi (by decide), ?_⟩
  show C 749 (LVL i) [.int (xs (nI i + 3).toNatClampNeg), .int (xs (nI i + 2).toNatClampNeg), .int (xs (nI i + 1).toNatClampNeg), .ref 104, r] w ca sl
  rw [e1, e2, e3]
  exact h
theorem m3_12 {x y : Int32} (hC : lwGo L xs z C) (hxy : x = y) (h : C 23 (LVL (i + 6)) [] w ca sl) : C 752 (LVL i) [.int y, .int x] w ca sl :=
  hC tL_m3_12 [(1714, [0, 1, 2, 3, 4])] tL_m3_12_ok _ _ _ _ _ _ ⟨fun _ => lw_next hC h, fun c => absurd hxy c⟩
theorem m1_13 (hC : lwGo L xs z C) (hL : L ≤ 3072) (hi : i + 6 ≤ L) (h : C 770 (LVL i) [.int (xs (i + 2)), .int (xs (i + 1)), .ref 0] w ca sl) : C 757 (LVL i) [] w ca sl := by
  have e1 := lxc (k := 1) (K := 1) rfl hL hi (by decide)
  have e2 := lxc (k := 2) (K := 2) rfl hL hi (by decide)
  refine hC tL_m1_13 [(770, [0, 1, 2, 3, 4])] tL_m1_13_ok _ _ _ _ _ _ ?_
  refine ⟨lx (k := 1) rfl hL hi (by decide), lx (k := 2) rfl hL hi (by decide), ?_⟩
  show C 770 (LVL i) [.int (xs (nI i + 2).toNatClampNeg), .int (xs (nI i + 1).toNatClampNeg), .ref 0] w ca sl
  rw [e1, e2]
  exact h
theorem m2_13 {r : Value} (hC : lwGo L xs z C) (hL : L ≤ 3072) (hi : i + 6 ≤ L) (h : C 786 (LVL i) [.int (xs (i + 2)), .int (xs (i + 1)), .ref 104, r] w ca sl) : C 773 (LVL i) [r] w ca sl := by
  have e1 := lxc (k := 1) (K := 1) rfl hL hi (by decide)
  have e2 := lxc (k := 2) (K := 2) rfl hL hi (by decide)
  refine hC tL_m2_13 [(786, [0, 1, 2, 3, 4])] tL_m2_13_ok _ _ _ _ _ _ ?_
  refine ⟨lx (k := 1) rfl hL hi (by decide), lx (k := 2) rfl hL hi (by decide), ?_⟩
  show C 786 (LVL i) [.int (xs (nI i + 2).toNatClampNeg), .int (xs (nI i + 1).toNatClampNeg), .ref 104, r] w ca sl
  rw [e1, e2]
  exact h
theorem m3_13 {x y : Int32} (hC : lwGo L xs z C) (hxy : x = y) (h : C 23 (LVL (i + 6)) [] w ca sl) : C 789 (LVL i) [.int y, .int x] w ca sl :=
  hC tL_m3_13 [(1714, [0, 1, 2, 3, 4])] tL_m3_13_ok _ _ _ _ _ _ ⟨fun _ => lw_next hC h, fun c => absurd hxy c⟩
theorem m1_14 (hC : lwGo L xs z C) (hL : L ≤ 3072) (hi : i + 6 ≤ L) (h : C 813 (LVL i) [.int (xs (i + 3)), .int (xs (i + 2)), .int (xs (i + 1)), .ref 0] w ca sl) : C 794 (LVL i) [] w ca sl := by
  have e1 := lxc (k := 1) (K := 1) rfl hL hi (by decide)
  have e2 := lxc (k := 2) (K := 2) rfl hL hi (by decide)
  have e3 := lxc (k := 3) (K := 3) rfl hL hi (by decide)
  refine hC tL_m1_14 [(813, [0, 1, 2, 3, 4])] tL_m1_14_ok _ _ _ _ _ _ ?_
  refine ⟨lx (k := 1) rfl hL hi (by decide), lx (k := 2) rfl hL hi (by decide), lx (k := 3) rfl hL hi (by decide), ?_⟩
  show C 813 (LVL i) [.int (xs (nI i + 3).toNatClampNeg), .int (xs (nI i + 2).toNatClampNeg), .int (xs (nI i + 1).toNatClampNeg), .ref 0] w ca sl
  rw [e1, e2, e3]
  exact h
theorem m2_14 {r : Value} (hC : lwGo L xs z C) (hL : L ≤ 3072) (hi : i + 6 ≤ L) (h : C 835 (LVL i) [.int (xs (i + 3)), .int (xs (i + 2)), .int (xs (i + 1)), .ref 104, r] w ca sl) : C 816 (LVL i) [r] w ca sl := by
  have e1 := lxc (k := 1) (K := 1) rfl hL hi (by decide)
  have e2 := lxc (k := 2) (K := 2) rfl hL hi (by decide)
  have e3 := lxc (k := 3) (K := 3) rfl hL hi (by decide)
  refine hC tL_m2_14 [(835, [0, 1, 2, 3, 4])] tL_m2_14_ok _ _ _ _ _ _ ?_
  refine ⟨lx (k := 1) rfl hL hi (by decide), lx (k := 2) rfl hL hi (by decide), lx (k := 3) rfl hL hi (by decide), ?_⟩
  show C 835 (LVL i) [.int (xs (nI i + 3).toNatClampNeg), .int (xs (nI i + 2).toNatClampNeg), .int (xs (nI i + 1).toNatClampNeg), .ref 104, r] w ca sl
  rw [e1, e2, e3]
  exact h
theorem m3_14 {x y : Int32} (hC : lwGo L xs z C) (hxy : x = y) (h : C 23 (LVL (i + 6)) [] w ca sl) : C 838 (LVL i) [.int y, .int x] w ca sl :=
  hC tL_m3_14 [(1714, [0, 1, 2, 3, 4])] tL_m3_14_ok _ _ _ _ _ _ ⟨fun _ => lw_next hC h, fun c => absurd hxy c⟩
theorem m1_15 (hC : lwGo L xs z C) (hL : L ≤ 3072) (hi : i + 6 ≤ L) (h : C 862 (LVL i) [.int (xs (i + 3)), .int (xs (i + 2)), .int (xs (i + 1)), .ref 0] w ca sl) : C 843 (LVL i) [] w ca sl := by
  have e1 := lxc (k := 1) (K := 1) rfl hL hi (by decide)
  have e2 := lxc (k := 2) (K := 2) rfl hL hi (by decide)
  have e3 := lxc (k := 3) (K := 3) rfl hL hi (by decide)
  refine hC tL_m1_15 [(862, [0, 1, 2, 3, 4])] tL_m1_15_ok _ _ _ _ _ _ ?_
  refine ⟨lx (k := 1) rfl hL hi (by decide), lx (k := 2) rfl hL hi (by decide), lx (k := 3) rfl hL hi (by decide), ?_⟩
  show C 862 (LVL i) [.int (xs (nI i + 3).toNatClampNeg), .int (xs (nI i + 2).toNatClampNeg), .int (xs (nI i + 1).toNatClampNeg), .ref 0] w ca sl
  rw [e1, e2, e3]
  exact h
theorem m2_15 {r : Value} (hC : lwGo L xs z C) (hL : L ≤ 3072) (hi : i + 6 ≤ L) (h : C 884 (LVL i) [.int (xs (i + 3)), .int (xs (i + 2)), .int (xs (i + 1)), .ref 104, r] w ca sl) : C 865 (LVL i) [r] w ca sl := by
  have e1 := lxc (k := 1) (K := 1) rfl hL hi (by decide)
  have e2 := lxc (k := 2) (K := 2) rfl hL hi (by decide)
  have e3 := lxc (k := 3) (K := 3) rfl hL hi (by decide)
  refine hC tL_m2_15 [(884, [0, 1, 2, 3, 4])] tL_m2_15_ok _ _ _ _ _ _ ?_
  refine ⟨lx (k := 1) rfl hL hi (by decide), lx (k := 2) rfl hL hi (by decide), lx (k := 3) rfl hL hi (by decide), ?_⟩
  show C 884 (LVL i) [.int (xs (nI i + 3).toNatClampNeg), .int (xs (nI i + 2).toNatClampNeg), .int (xs (nI i + 1).toNatClampNeg), .ref 104, r] w ca sl
  rw [e1, e2, e3]
  exact h
theorem m3_15 {x y : Int32} (hC : lwGo L xs z C) (hxy : x = y) (h : C 23 (LVL (i + 6)) [] w ca sl) : C 887 (LVL i) [.int y, .int x] w ca sl :=
  hC tL_m3_15 [(1714, [0, 1, 2, 3, 4])] tL_m3_15_ok _ _ _ _ _ _ ⟨fun _ => lw_next hC h, fun c => absurd hxy c⟩
theorem m1_16 (hC : lwGo L xs z C) (hL : L ≤ 3072) (hi : i + 6 ≤ L) (h : C 911 (LVL i) [.int (xs (i + 3)), .int (xs (i + 2)), .int (xs (i + 1)), .ref 0] w ca sl) : C 892 (LVL i) [] w ca sl := by
  have e1 := lxc (k := 1) (K := 1) rfl hL hi (by decide)
  have e2 := lxc (k := 2) (K := 2) rfl hL hi (by decide)
  have e3 := lxc (k := 3) (K := 3) rfl hL hi (by decide)
  refine hC tL_m1_16 [(911, [0, 1, 2, 3, 4])] tL_m1_16_ok _ _ _ _ _ _ ?_
  refine ⟨lx (k := 1) rfl hL hi (by decide), lx (k := 2) rfl hL hi (by decide), lx (k := 3) rfl hL hi (by decide), ?_⟩
  show C 911 (LVL i) [.int (xs (nI i + 3).toNatClampNeg), .int (xs (nI i + 2).toNatClampNeg), .int (xs (nI i + 1).toNatClampNeg), .ref 0] w ca sl
  rw [e1, e2, e3]
  exact h
theorem m2_16 {r : Value} (hC : lwGo L xs z C) (hL : L ≤ 3072) (hi : i + 6 ≤ L) (h : C 933 (LVL i) [.int (xs (i + 3)), .int (xs (i + 2)), .int (xs (i + 1)), .ref 104, r] w ca sl) : C 914 (LVL i) [r] w ca sl := by
  have e1 := lxc (k := 1) (K := 1) rfl hL hi (by decide)
  have e2 := lxc (k := 2) (K := 2) rfl hL hi (by decide)
  have e3 := lxc (k := 3) (K := 3) rfl hL hi (by decide)
  refine hC tL_m2_16 [(933, [0, 1, 2, 3, 4])] tL_m2_16_ok _ _ _ _ _ _ ?_
  refine ⟨lx (k := 1) rfl hL hi (by decide), lx (k := 2) rfl hL hi (by decide), lx (k := 3) rfl hL hi (by decide), ?_⟩
  show C 933 (LVL i) [.int (xs (nI i + 3).toNatClampNeg), .int (xs (nI i + 2).toNatClampNeg), .int (xs (nI i + 1).toNatClampNeg), .ref 104, r] w ca sl
  rw [e1, e2, e3]
  exact h
theorem m3_16 {x y : Int32} (hC : lwGo L xs z C) (hxy : x = y) (h : C 23 (LVL (i + 6)) [] w ca sl) : C 936 (LVL i) [.int y, .int x] w ca sl :=
  hC tL_m3_16 [(1714, [0, 1, 2, 3, 4])] tL_m3_16_ok _ _ _ _ _ _ ⟨fun _ => lw_next hC h, fun c => absurd hxy c⟩
theorem m1_17 (hC : lwGo L xs z C) (hL : L ≤ 3072) (hi : i + 6 ≤ L) (h : C 954 (LVL i) [.int (xs (i + 2)), .int (xs (i + 1)), .ref 0] w ca sl) : C 941 (LVL i) [] w ca sl := by
  have e1 := lxc (k := 1) (K := 1) rfl hL hi (by decide)
  have e2 := lxc (k := 2) (K := 2) rfl hL hi (by decide)
  refine hC tL_m1_17 [(954, [0, 1, 2, 3, 4])] tL_m1_17_ok _ _ _ _ _ _ ?_
  refine ⟨lx (k := 1) rfl hL hi (by decide), lx (k := 2) rfl hL hi (by decide), ?_⟩
  show C 954 (LVL i) [.int (xs (nI i + 2).toNatClampNeg), .int (xs (nI i + 1).toNatClampNeg), .ref 0] w ca sl
  rw [e1, e2]
  exact h
theorem m2_17 {r : Value} (hC : lwGo L xs z C) (hL : L ≤ 3072) (hi : i + 6 ≤ L) (h : C 970 (LVL i) [.int (xs (i + 2)), .int (xs (i + 1)), .ref 104, r] w ca sl) : C 957 (LVL i) [r] w ca sl := by
  have e1 := lxc (k := 1) (K := 1) rfl hL hi (by decide)
  have e2 := lxc (k := 2) (K := 2) rfl hL hi (by decide)
  refine hC tL_m2_17 [(970, [0, 1, 2, 3, 4])] tL_m2_17_ok _ _ _ _ _ _ ?_
  refine ⟨lx (k := 1) rfl hL hi (by decide), lx (k := 2) rfl hL hi (by decide), ?_⟩
  show C 970 (LVL i) [.int (xs (nI i + 2).toNatClampNeg), .int (xs (nI i + 1).toNatClampNeg), .ref 104, r] w ca sl
  rw [e1, e2]
  exact h
theorem m3_17 {x y : Int32} (hC : lwGo L xs z C) (hxy : x = y) (h : C 23 (LVL (i + 6)) [] w ca sl) : C 973 (LVL i) [.int y, .int x] w ca sl :=
  hC tL_m3_17 [(1714, [0, 1, 2, 3, 4])] tL_m3_17_ok _ _ _ _ _ _ ⟨fun _ => lw_next hC h, fun c => absurd hxy c⟩
theorem m1_18 (hC : lwGo L xs z C) (hL : L ≤ 3072) (hi : i + 6 ≤ L) (h : C 991 (LVL i) [.int (xs (i + 2)), .int (xs (i + 1)), .ref 0] w ca sl) : C 978 (LVL i) [] w ca sl := by
  have e1 := lxc (k := 1) (K := 1) rfl hL hi (by decide)
  have e2 := lxc (k := 2) (K := 2) rfl hL hi (by decide)
  refine hC tL_m1_18 [(991, [0, 1, 2, 3, 4])] tL_m1_18_ok _ _ _ _ _ _ ?_
  refine ⟨lx (k := 1) rfl hL hi (by decide), lx (k := 2) rfl hL hi (by decide), ?_⟩
  show C 991 (LVL i) [.int (xs (nI i + 2).toNatClampNeg), .int (xs (nI i + 1).toNatClampNeg), .ref 0] w ca sl
  rw [e1, e2]
  exact h
theorem m2_18 {r : Value} (hC : lwGo L xs z C) (hL : L ≤ 3072) (hi : i + 6 ≤ L) (h : C 1007 (LVL i) [.int (xs (i + 2)), .int (xs (i + 1)), .ref 104, r] w ca sl) : C 994 (LVL i) [r] w ca sl := by
  have e1 := lxc (k := 1) (K := 1) rfl hL hi (by decide)
  have e2 := lxc (k := 2) (K := 2) rfl hL hi (by decide)
  refine hC tL_m2_18 [(1007, [0, 1, 2, 3, 4])] tL_m2_18_ok _ _ _ _ _ _ ?_
  refine ⟨lx (k := 1) rfl hL hi (by decide), lx (k := 2) rfl hL hi (by decide), ?_⟩
  show C 1007 (LVL i) [.int (xs (nI i + 2).toNatClampNeg), .int (xs (nI i + 1).toNatClampNeg), .ref 104, r] w ca sl
  rw [e1, e2]
  exact h
theorem m3_18 {x y : Int32} (hC : lwGo L xs z C) (hxy : x = y) (h : C 23 (LVL (i + 6)) [] w ca sl) : C 1010 (LVL i) [.int y, .int x] w ca sl :=
  hC tL_m3_18 [(1714, [0, 1, 2, 3, 4])] tL_m3_18_ok _ _ _ _ _ _ ⟨fun _ => lw_next hC h, fun c => absurd hxy c⟩
theorem m1_19 (hC : lwGo L xs z C) (hL : L ≤ 3072) (hi : i + 6 ≤ L) (h : C 1034 (LVL i) [.int (xs (i + 3)), .int (xs (i + 2)), .int (xs (i + 1)), .ref 0] w ca sl) : C 1015 (LVL i) [] w ca sl := by
  have e1 := lxc (k := 1) (K := 1) rfl hL hi (by decide)
  have e2 := lxc (k := 2) (K := 2) rfl hL hi (by decide)
  have e3 := lxc (k := 3) (K := 3) rfl hL hi (by decide)
  refine hC tL_m1_19 [(1034, [0, 1, 2, 3, 4])] tL_m1_19_ok _ _ _ _ _ _ ?_
  refine ⟨lx (k := 1) rfl hL hi (by decide), lx (k := 2) rfl hL hi (by decide), lx (k := 3) rfl hL hi (by decide), ?_⟩
  show C 1034 (LVL i) [.int (xs (nI i + 3).toNatClampNeg), .int (xs (nI i + 2).toNatClampNeg), .int (xs (nI i + 1).toNatClampNeg), .ref 0] w ca sl
  rw [e1, e2, e3]
  exact h
theorem m2_19 {r : Value} (hC : lwGo L xs z C) (hL : L ≤ 3072) (hi : i + 6 ≤ L) (h : C 1056 (LVL i) [.int (xs (i + 3)), .int (xs (i + 2)), .int (xs (i + 1)), .ref 104, r] w ca sl) : C 1037 (LVL i) [r] w ca sl := by
  have e1 := lxc (k := 1) (K := 1) rfl hL hi (by decide)
  have e2 := lxc (k := 2) (K := 2) rfl hL hi (by decide)
  have e3 := lxc (k := 3) (K := 3) rfl hL hi (by decide)
  refine hC tL_m2_19 [(1056, [0, 1, 2, 3, 4])] tL_m2_19_ok _ _ _ _ _ _ ?_
  refine ⟨lx (k := 1) rfl hL hi (by decide), lx (k := 2) rfl hL hi (by decide), lx (k := 3) rfl hL hi (by decide), ?_⟩
  show C 1056 (LVL i) [.int (xs (nI i + 3).toNatClampNeg), .int (xs (nI i + 2).toNatClampNeg), .int (xs (nI i + 1).toNatClampNeg), .ref 104, r] w ca sl
  rw [e1, e2, e3]
  exact h
theorem m3_19 {x y : Int32} (hC : lwGo L xs z C) (hxy : x = y) (h : C 23 (LVL (i + 6)) [] w ca sl) : C 1059 (LVL i) [.int y, .int x] w ca sl :=
  hC tL_m3_19 [(1714, [0, 1, 2, 3, 4])] tL_m3_19_ok _ _ _ _ _ _ ⟨fun _ => lw_next hC h, fun c => absurd hxy c⟩
theorem m1_20 (hC : lwGo L xs z C) (hL : L ≤ 3072) (hi : i + 6 ≤ L) (h : C 1083 (LVL i) [.int (xs (i + 3)), .int (xs (i + 2)), .int (xs (i + 1)), .ref 0] w ca sl) : C 1064 (LVL i) [] w ca sl := by
  have e1 := lxc (k := 1) (K := 1) rfl hL hi (by decide)
  have e2 := lxc (k := 2) (K := 2) rfl hL hi (by decide)
  have e3 := lxc (k := 3) (K := 3) rfl hL hi (by decide)
  refine hC tL_m1_20 [(1083, [0, 1, 2, 3, 4])] tL_m1_20_ok _ _ _ _ _ _ ?_
  refine ⟨lx (k := 1) rfl hL hi (by decide), lx (k := 2) rfl hL hi (by decide), lx (k := 3) rfl hL hi (by decide), ?_⟩
  show C 1083 (LVL i) [.int (xs (nI i + 3).toNatClampNeg), .int (xs (nI i + 2).toNatClampNeg), .int (xs (nI i + 1).toNatClampNeg), .ref 0] w ca sl
  rw [e1, e2, e3]
  exact h
theorem m2_20 {r : Value} (hC : lwGo L xs z C) (hL : L ≤ 3072) (hi : i + 6 ≤ L) (h : C 1105 (LVL i) [.int (xs (i + 3)), .int (xs (i + 2)), .int (xs (i + 1)), .ref 104, r] w ca sl) : C 1086 (LVL i) [r] w ca sl := by
  have e1 := lxc (k := 1) (K := 1) rfl hL hi (by decide)
  have e2 := lxc (k := 2) (K := 2) rfl hL hi (by decide)
  have e3 := lxc (k := 3) (K := 3) rfl hL hi (by decide)
  refine hC tL_m2_20 [(1105, [0, 1, 2, 3, 4])] tL_m2_20_ok _ _ _ _ _ _ ?_
  refine ⟨lx (k := 1) rfl hL hi (by decide), lx (k := 2) rfl hL hi (by decide), lx (k := 3) rfl hL hi (by decide), ?_⟩
  show C 1105 (LVL i) [.int (xs (nI i + 3).toNatClampNeg), .int (xs (nI i + 2).toNatClampNeg), .int (xs (nI i + 1).toNatClampNeg), .ref 104, r] w ca sl
  rw [e1, e2, e3]
  exact h
theorem m3_20 {x y : Int32} (hC : lwGo L xs z C) (hxy : x = y) (h : C 23 (LVL (i + 6)) [] w ca sl) : C 1108 (LVL i) [.int y, .int x] w ca sl :=
  hC tL_m3_20 [(1714, [0, 1, 2, 3, 4])] tL_m3_20_ok _ _ _ _ _ _ ⟨fun _ => lw_next hC h, fun c => absurd hxy c⟩
theorem m1_21 (hC : lwGo L xs z C) (hL : L ≤ 3072) (hi : i + 6 ≤ L) (h : C 1114 (LVL i) [.ref 0] w ca sl) : C 1113 (LVL i) [] w ca sl := by
  refine hC tL_m1_21 [(1114, [0, 1, 2, 3, 4])] tL_m1_21_ok _ _ _ _ _ _ ?_
  show C 1114 (LVL i) [.ref 0] w ca sl
  exact h
theorem m2_21 {r : Value} (hC : lwGo L xs z C) (hL : L ≤ 3072) (hi : i + 6 ≤ L) (h : C 1118 (LVL i) [.ref 104, r] w ca sl) : C 1117 (LVL i) [r] w ca sl := by
  refine hC tL_m2_21 [(1118, [0, 1, 2, 3, 4])] tL_m2_21_ok _ _ _ _ _ _ ?_
  show C 1118 (LVL i) [.ref 104, r] w ca sl
  exact h
theorem m3_21 {x y : Int32} (hC : lwGo L xs z C) (hxy : x = y) (h : C 23 (LVL (i + 6)) [] w ca sl) : C 1121 (LVL i) [.int y, .int x] w ca sl :=
  hC tL_m3_21 [(1714, [0, 1, 2, 3, 4])] tL_m3_21_ok _ _ _ _ _ _ ⟨fun _ => lw_next hC h, fun c => absurd hxy c⟩
theorem m1_22 (hC : lwGo L xs z C) (hL : L ≤ 3072) (hi : i + 6 ≤ L) (h : C 1133 (LVL i) [.int (xs (i + 1)), .ref 0] w ca sl) : C 1126 (LVL i) [] w ca sl := by
  have e1 := lxc (k := 1) (K := 1) rfl hL hi (by decide)
  refine hC tL_m1_22 [(1133, [0, 1, 2, 3, 4])] tL_m1_22_ok _ _ _ _ _ _ ?_
  refine ⟨lx (k := 1) rfl hL hi (by decide), ?_⟩
  show C 1133 (LVL i) [.int (xs (nI i + 1).toNatClampNeg), .ref 0] w ca sl
  rw [e1]
  exact h
theorem m2_22 {r : Value} (hC : lwGo L xs z C) (hL : L ≤ 3072) (hi : i + 6 ≤ L) (h : C 1143 (LVL i) [.int (xs (i + 1)), .ref 104, r] w ca sl) : C 1136 (LVL i) [r] w ca sl := by
  have e1 := lxc (k := 1) (K := 1) rfl hL hi (by decide)
  refine hC tL_m2_22 [(1143, [0, 1, 2, 3, 4])] tL_m2_22_ok _ _ _ _ _ _ ?_
  refine ⟨lx (k := 1) rfl hL hi (by decide), ?_⟩
  show C 1143 (LVL i) [.int (xs (nI i + 1).toNatClampNeg), .ref 104, r] w ca sl
  rw [e1]
  exact h
theorem m3_22 {x y : Int32} (hC : lwGo L xs z C) (hxy : x = y) (h : C 23 (LVL (i + 6)) [] w ca sl) : C 1146 (LVL i) [.int y, .int x] w ca sl :=
  hC tL_m3_22 [(1714, [0, 1, 2, 3, 4])] tL_m3_22_ok _ _ _ _ _ _ ⟨fun _ => lw_next hC h, fun c => absurd hxy c⟩
theorem m1_23 (hC : lwGo L xs z C) (hL : L ≤ 3072) (hi : i + 6 ≤ L) (h : C 1182 (LVL i) [.int (xs (i + 5)), .int (xs (i + 4)), .int (xs (i + 3)), .int (xs (i + 2)), .int (xs (i + 1)), .ref 0] w ca sl) : C 1151 (LVL i) [] w ca sl := by
  have e1 := lxc (k := 1) (K := 1) rfl hL hi (by decide)
  have e2 := lxc (k := 2) (K := 2) rfl hL hi (by decide)
  have e3 := lxc (k := 3) (K := 3) rfl hL hi (by decide)
  have e4 := lxc (k := 4) (K := 4) rfl hL hi (by decide)
  have e5 := lxc (k := 5) (K := 5) rfl hL hi (by decide)
  refine hC tL_m1_23 [(1182, [0, 1, 2, 3, 4])] tL_m1_23_ok _ _ _ _ _ _ ?_
  refine ⟨lx (k := 1) rfl hL hi (by decide), lx (k := 2) rfl hL hi (by decide), lx (k := 3) rfl hL hi (by decide), lx (k := 4) rfl hL hi (by decide), lx (k := 5) rfl hL hi (by decide), ?_⟩
  show C 1182 (LVL i) [.int (xs (nI i + 5).toNatClampNeg), .int (xs (nI i + 4).toNatClampNeg), .int (xs (nI i + 3).toNatClampNeg), .int (xs (nI i + 2).toNatClampNeg), .int (xs (nI i + 1).toNatClampNeg), .ref 0] w ca sl
  rw [e1, e2, e3, e4, e5]
  exact h
theorem m2_23 {r : Value} (hC : lwGo L xs z C) (hL : L ≤ 3072) (hi : i + 6 ≤ L) (h : C 1216 (LVL i) [.int (xs (i + 5)), .int (xs (i + 4)), .int (xs (i + 3)), .int (xs (i + 2)), .int (xs (i + 1)), .ref 104, r] w ca sl) : C 1185 (LVL i) [r] w ca sl := by
  have e1 := lxc (k := 1) (K := 1) rfl hL hi (by decide)
  have e2 := lxc (k := 2) (K := 2) rfl hL hi (by decide)
  have e3 := lxc (k := 3) (K := 3) rfl hL hi (by decide)
  have e4 := lxc (k := 4) (K := 4) rfl hL hi (by decide)
  have e5 := lxc (k := 5) (K := 5) rfl hL hi (by decide)
  refine hC tL_m2_23 [(1216, [0, 1, 2, 3, 4])] tL_m2_23_ok _ _ _ _ _ _ ?_
  refine ⟨lx (k := 1) rfl hL hi (by decide), lx (k := 2) rfl hL hi (by decide), lx (k := 3) rfl hL hi (by decide), lx (k := 4) rfl hL hi (by decide), lx (k := 5) rfl hL hi (by decide), ?_⟩
  show C 1216 (LVL i) [.int (xs (nI i + 5).toNatClampNeg), .int (xs (nI i + 4).toNatClampNeg), .int (xs (nI i + 3).toNatClampNeg), .int (xs (nI i + 2).toNatClampNeg), .int (xs (nI i + 1).toNatClampNeg), .ref 104, r] w ca sl
  rw [e1, e2, e3, e4, e5]
  exact h
theorem m3_23 {x y : Int32} (hC : lwGo L xs z C) (hxy : x = y) (h : C 23 (LVL (i + 6)) [] w ca sl) : C 1219 (LVL i) [.int y, .int x] w ca sl :=
  hC tL_m3_23 [(1714, [0, 1, 2, 3, 4])] tL_m3_23_ok _ _ _ _ _ _ ⟨fun _ => lw_next hC h, fun c => absurd hxy c⟩
theorem m1_24 (hC : lwGo L xs z C) (hL : L ≤ 3072) (hi : i + 6 ≤ L) (h : C 1249 (LVL i) [.int (xs (i + 4)), .int (xs (i + 3)), .int (xs (i + 2)), .int (xs (i + 1)), .ref 0] w ca sl) : C 1224 (LVL i) [] w ca sl := by
  have e1 := lxc (k := 1) (K := 1) rfl hL hi (by decide)
  have e2 := lxc (k := 2) (K := 2) rfl hL hi (by decide)
  have e3 := lxc (k := 3) (K := 3) rfl hL hi (by decide)
  have e4 := lxc (k := 4) (K := 4) rfl hL hi (by decide)
  refine hC tL_m1_24 [(1249, [0, 1, 2, 3, 4])] tL_m1_24_ok _ _ _ _ _ _ ?_
  refine ⟨lx (k := 1) rfl hL hi (by decide), lx (k := 2) rfl hL hi (by decide), lx (k := 3) rfl hL hi (by decide), lx (k := 4) rfl hL hi (by decide), ?_⟩
  show C 1249 (LVL i) [.int (xs (nI i + 4).toNatClampNeg), .int (xs (nI i + 3).toNatClampNeg), .int (xs (nI i + 2).toNatClampNeg), .int (xs (nI i + 1).toNatClampNeg), .ref 0] w ca sl
  rw [e1, e2, e3, e4]
  exact h
theorem m2_24 {r : Value} (hC : lwGo L xs z C) (hL : L ≤ 3072) (hi : i + 6 ≤ L) (h : C 1277 (LVL i) [.int (xs (i + 4)), .int (xs (i + 3)), .int (xs (i + 2)), .int (xs (i + 1)), .ref 104, r] w ca sl) : C 1252 (LVL i) [r] w ca sl := by
  have e1 := lxc (k := 1) (K := 1) rfl hL hi (by decide)
  have e2 := lxc (k := 2) (K := 2) rfl hL hi (by decide)
  have e3 := lxc (k := 3) (K := 3) rfl hL hi (by decide)
  have e4 := lxc (k := 4) (K := 4) rfl hL hi (by decide)
  refine hC tL_m2_24 [(1277, [0, 1, 2, 3, 4])] tL_m2_24_ok _ _ _ _ _ _ ?_
  refine ⟨lx (k := 1) rfl hL hi (by decide), lx (k := 2) rfl hL hi (by decide), lx (k := 3) rfl hL hi (by decide), lx (k := 4) rfl hL hi (by decide), ?_⟩
  show C 1277 (LVL i) [.int (xs (nI i + 4).toNatClampNeg), .int (xs (nI i + 3).toNatClampNeg), .int (xs (nI i + 2).toNatClampNeg), .int (xs (nI i + 1).toNatClampNeg), .ref 104, r] w ca sl
  rw [e1, e2, e3, e4]
  exact h
theorem m3_24 {x y : Int32} (hC : lwGo L xs z C) (hxy : x = y) (h : C 23 (LVL (i + 6)) [] w ca sl) : C 1280 (LVL i) [.int y, .int x] w ca sl :=
  hC tL_m3_24 [(1714, [0, 1, 2, 3, 4])] tL_m3_24_ok _ _ _ _ _ _ ⟨fun _ => lw_next hC h, fun c => absurd hxy c⟩
theorem m1_25 (hC : lwGo L xs z C) (hL : L ≤ 3072) (hi : i + 6 ≤ L) (h : C 1304 (LVL i) [.int (xs (i + 3)), .int (xs (i + 2)), .int (xs (i + 1)), .ref 0] w ca sl) : C 1285 (LVL i) [] w ca sl := by
  have e1 := lxc (k := 1) (K := 1) rfl hL hi (by decide)
  have e2 := lxc (k := 2) (K := 2) rfl hL hi (by decide)
  have e3 := lxc (k := 3) (K := 3) rfl hL hi (by decide)
  refine hC tL_m1_25 [(1304, [0, 1, 2, 3, 4])] tL_m1_25_ok _ _ _ _ _ _ ?_
  refine ⟨lx (k := 1) rfl hL hi (by decide), lx (k := 2) rfl hL hi (by decide), lx (k := 3) rfl hL hi (by decide), ?_⟩
  show C 1304 (LVL i) [.int (xs (nI i + 3).toNatClampNeg), .int (xs (nI i + 2).toNatClampNeg), .int (xs (nI i + 1).toNatClampNeg), .ref 0] w ca sl
  rw [e1, e2, e3]
  exact h
theorem m2_25 {r : Value} (hC : lwGo L xs z C) (hL : L ≤ 3072) (hi : i + 6 ≤ L) (h : C 1326 (LVL i) [.int (xs (i + 3)), .int (xs (i + 2)), .int (xs (i + 1)), .ref 104, r] w ca sl) : C 1307 (LVL i) [r] w ca sl := by
  have e1 := lxc (k := 1) (K := 1) rfl hL hi (by decide)
  have e2 := lxc (k := 2) (K := 2) rfl hL hi (by decide)
  have e3 := lxc (k := 3) (K := 3) rfl hL hi (by decide)
  refine hC tL_m2_25 [(1326, [0, 1, 2, 3, 4])] tL_m2_25_ok _ _ _ _ _ _ ?_
  refine ⟨lx (k := 1) rfl hL hi (by decide), lx (k := 2) rfl hL hi (by decide), lx (k := 3) rfl hL hi (by decide), ?_⟩
  show C 1326 (LVL i) [.int (xs (nI i + 3).toNatClampNeg), .int (xs (nI i + 2).toNatClampNeg), .int (xs (nI i + 1).toNatClampNeg), .ref 104, r] w ca sl
  rw [e1, e2, e3]
  exact h
theorem m3_25 {x y : Int32} (hC : lwGo L xs z C) (hxy : x = y) (h : C 23 (LVL (i + 6)) [] w ca sl) : C 1329 (LVL i) [.int y, .int x] w ca sl :=
  hC tL_m3_25 [(1714, [0, 1, 2, 3, 4])] tL_m3_25_ok _ _ _ _ _ _ ⟨fun _ => lw_next hC h, fun c => absurd hxy c⟩
theorem m1_26 (hC : lwGo L xs z C) (hL : L ≤ 3072) (hi : i + 6 ≤ L) (h : C 1347 (LVL i) [.int (xs (i + 2)), .int (xs (i + 1)), .ref 0] w ca sl) : C 1334 (LVL i) [] w ca sl := by
  have e1 := lxc (k := 1) (K := 1) rfl hL hi (by decide)
  have e2 := lxc (k := 2) (K := 2) rfl hL hi (by decide)
  refine hC tL_m1_26 [(1347, [0, 1, 2, 3, 4])] tL_m1_26_ok _ _ _ _ _ _ ?_
  refine ⟨lx (k := 1) rfl hL hi (by decide), lx (k := 2) rfl hL hi (by decide), ?_⟩
  show C 1347 (LVL i) [.int (xs (nI i + 2).toNatClampNeg), .int (xs (nI i + 1).toNatClampNeg), .ref 0] w ca sl
  rw [e1, e2]
  exact h
theorem m2_26 {r : Value} (hC : lwGo L xs z C) (hL : L ≤ 3072) (hi : i + 6 ≤ L) (h : C 1363 (LVL i) [.int (xs (i + 2)), .int (xs (i + 1)), .ref 104, r] w ca sl) : C 1350 (LVL i) [r] w ca sl := by
  have e1 := lxc (k := 1) (K := 1) rfl hL hi (by decide)
  have e2 := lxc (k := 2) (K := 2) rfl hL hi (by decide)
  refine hC tL_m2_26 [(1363, [0, 1, 2, 3, 4])] tL_m2_26_ok _ _ _ _ _ _ ?_
  refine ⟨lx (k := 1) rfl hL hi (by decide), lx (k := 2) rfl hL hi (by decide), ?_⟩
  show C 1363 (LVL i) [.int (xs (nI i + 2).toNatClampNeg), .int (xs (nI i + 1).toNatClampNeg), .ref 104, r] w ca sl
  rw [e1, e2]
  exact h
theorem m3_26 {x y : Int32} (hC : lwGo L xs z C) (hxy : x = y) (h : C 23 (LVL (i + 6)) [] w ca sl) : C 1366 (LVL i) [.int y, .int x] w ca sl :=
  hC tL_m3_26 [(1714, [0, 1, 2, 3, 4])] tL_m3_26_ok _ _ _ _ _ _ ⟨fun _ => lw_next hC h, fun c => absurd hxy c⟩
theorem m1_27 (hC : lwGo L xs z C) (hL : L ≤ 3072) (hi : i + 6 ≤ L) (h : C 1384 (LVL i) [.int (xs (i + 2)), .int (xs (i + 1)), .ref 0] w ca sl) : C 1371 (LVL i) [] w ca sl := by
  have e1 := lxc (k := 1) (K := 1) rfl hL hi (by decide)
  have e2 := lxc (k := 2) (K := 2) rfl hL hi (by decide)
  refine hC tL_m1_27 [(1384, [0, 1, 2, 3, 4])] tL_m1_27_ok _ _ _ _ _ _ ?_
  refine ⟨lx (k := 1) rfl hL hi (by decide), lx (k := 2) rfl hL hi (by decide), ?_⟩
  show C 1384 (LVL i) [.int (xs (nI i + 2).toNatClampNeg), .int (xs (nI i + 1).toNatClampNeg), .ref 0] w ca sl
  rw [e1, e2]
  exact h
theorem m2_27 {r : Value} (hC : lwGo L xs z C) (hL : L ≤ 3072) (hi : i + 6 ≤ L) (h : C 1400 (LVL i) [.int (xs (i + 2)), .int (xs (i + 1)), .ref 104, r] w ca sl) : C 1387 (LVL i) [r] w ca sl := by
  have e1 := lxc (k := 1) (K := 1) rfl hL hi (by decide)
  have e2 := lxc (k := 2) (K := 2) rfl hL hi (by decide)
  refine hC tL_m2_27 [(1400, [0, 1, 2, 3, 4])] tL_m2_27_ok _ _ _ _ _ _ ?_
  refine ⟨lx (k := 1) rfl hL hi (by decide), lx (k := 2) rfl hL hi (by decide), ?_⟩
  show C 1400 (LVL i) [.int (xs (nI i + 2).toNatClampNeg), .int (xs (nI i + 1).toNatClampNeg), .ref 104, r] w ca sl
  rw [e1, e2]
  exact h
theorem m3_27 {x y : Int32} (hC : lwGo L xs z C) (hxy : x = y) (h : C 23 (LVL (i + 6)) [] w ca sl) : C 1403 (LVL i) [.int y, .int x] w ca sl :=
  hC tL_m3_27 [(1714, [0, 1, 2, 3, 4])] tL_m3_27_ok _ _ _ _ _ _ ⟨fun _ => lw_next hC h, fun c => absurd hxy c⟩
theorem m1_28 (hC : lwGo L xs z C) (hL : L ≤ 3072) (hi : i + 6 ≤ L) (h : C 1409 (LVL i) [.ref 0] w ca sl) : C 1408 (LVL i) [] w ca sl := by
  refine hC tL_m1_28 [(1409, [0, 1, 2, 3, 4])] tL_m1_28_ok _ _ _ _ _ _ ?_
  show C 1409 (LVL i) [.ref 0] w ca sl
  exact h
theorem m2_28 {r : Value} (hC : lwGo L xs z C) (hL : L ≤ 3072) (hi : i + 6 ≤ L) (h : C 1413 (LVL i) [.ref 104, r] w ca sl) : C 1412 (LVL i) [r] w ca sl := by
  refine hC tL_m2_28 [(1413, [0, 1, 2, 3, 4])] tL_m2_28_ok _ _ _ _ _ _ ?_
  show C 1413 (LVL i) [.ref 104, r] w ca sl
  exact h
theorem m3_28 {x y : Int32} (hC : lwGo L xs z C) (hxy : x = y) (h : C 23 (LVL (i + 6)) [] w ca sl) : C 1416 (LVL i) [.int y, .int x] w ca sl :=
  hC tL_m3_28 [(1714, [0, 1, 2, 3, 4])] tL_m3_28_ok _ _ _ _ _ _ ⟨fun _ => lw_next hC h, fun c => absurd hxy c⟩
theorem m1_29 (hC : lwGo L xs z C) (hL : L ≤ 3072) (hi : i + 6 ≤ L) (h : C 1428 (LVL i) [.int (xs (i + 1)), .ref 0] w ca sl) : C 1421 (LVL i) [] w ca sl := by
  have e1 := lxc (k := 1) (K := 1) rfl hL hi (by decide)
  refine hC tL_m1_29 [(1428, [0, 1, 2, 3, 4])] tL_m1_29_ok _ _ _ _ _ _ ?_
  refine ⟨lx (k := 1) rfl hL hi (by decide), ?_⟩
  show C 1428 (LVL i) [.int (xs (nI i + 1).toNatClampNeg), .ref 0] w ca sl
  rw [e1]
  exact h
theorem m2_29 {r : Value} (hC : lwGo L xs z C) (hL : L ≤ 3072) (hi : i + 6 ≤ L) (h : C 1438 (LVL i) [.int (xs (i + 1)), .ref 104, r] w ca sl) : C 1431 (LVL i) [r] w ca sl := by
  have e1 := lxc (k := 1) (K := 1) rfl hL hi (by decide)
  refine hC tL_m2_29 [(1438, [0, 1, 2, 3, 4])] tL_m2_29_ok _ _ _ _ _ _ ?_
  refine ⟨lx (k := 1) rfl hL hi (by decide), ?_⟩
  show C 1438 (LVL i) [.int (xs (nI i + 1).toNatClampNeg), .ref 104, r] w ca sl
  rw [e1]
  exact h
theorem m3_29 {x y : Int32} (hC : lwGo L xs z C) (hxy : x = y) (h : C 23 (LVL (i + 6)) [] w ca sl) : C 1441 (LVL i) [.int y, .int x] w ca sl :=
  hC tL_m3_29 [(1714, [0, 1, 2, 3, 4])] tL_m3_29_ok _ _ _ _ _ _ ⟨fun _ => lw_next hC h, fun c => absurd hxy c⟩
theorem m1_30 (hC : lwGo L xs z C) (hL : L ≤ 3072) (hi : i + 6 ≤ L) (h : C 1459 (LVL i) [.int (xs (i + 2)), .int (xs (i + 1)), .ref 0] w ca sl) : C 1446 (LVL i) [] w ca sl := by
  have e1 := lxc (k := 1) (K := 1) rfl hL hi (by decide)
  have e2 := lxc (k := 2) (K := 2) rfl hL hi (by decide)
  refine hC tL_m1_30 [(1459, [0, 1, 2, 3, 4])] tL_m1_30_ok _ _ _ _ _ _ ?_
  refine ⟨lx (k := 1) rfl hL hi (by decide), lx (k := 2) rfl hL hi (by decide), ?_⟩
  show C 1459 (LVL i) [.int (xs (nI i + 2).toNatClampNeg), .int (xs (nI i + 1).toNatClampNeg), .ref 0] w ca sl
  rw [e1, e2]
  exact h
theorem m2_30 {r : Value} (hC : lwGo L xs z C) (hL : L ≤ 3072) (hi : i + 6 ≤ L) (h : C 1475 (LVL i) [.int (xs (i + 2)), .int (xs (i + 1)), .ref 104, r] w ca sl) : C 1462 (LVL i) [r] w ca sl := by
  have e1 := lxc (k := 1) (K := 1) rfl hL hi (by decide)
  have e2 := lxc (k := 2) (K := 2) rfl hL hi (by decide)
  refine hC tL_m2_30 [(1475, [0, 1, 2, 3, 4])] tL_m2_30_ok _ _ _ _ _ _ ?_
  refine ⟨lx (k := 1) rfl hL hi (by decide), lx (k := 2) rfl hL hi (by decide), ?_⟩
  show C 1475 (LVL i) [.int (xs (nI i + 2).toNatClampNeg), .int (xs (nI i + 1).toNatClampNeg), .ref 104, r] w ca sl
  rw [e1, e2]
  exact h
theorem m3_30 {x y : Int32} (hC : lwGo L xs z C) (hxy : x = y) (h : C 23 (LVL (i + 6)) [] w ca sl) : C 1478 (LVL i) [.int y, .int x] w ca sl :=
  hC tL_m3_30 [(1714, [0, 1, 2, 3, 4])] tL_m3_30_ok _ _ _ _ _ _ ⟨fun _ => lw_next hC h, fun c => absurd hxy c⟩
theorem m1_31 (hC : lwGo L xs z C) (hL : L ≤ 3072) (hi : i + 6 ≤ L) (h : C 1496 (LVL i) [.int (xs (i + 2)), .int (xs (i + 1)), .ref 0] w ca sl) : C 1483 (LVL i) [] w ca sl := by
  have e1 := lxc (k := 1) (K := 1) rfl hL hi (by decide)
  have e2 := lxc (k := 2) (K := 2) rfl hL hi (by decide)
  refine hC tL_m1_31 [(1496, [0, 1, 2, 3, 4])] tL_m1_31_ok _ _ _ _ _ _ ?_
  refine ⟨lx (k := 1) rfl hL hi (by decide), lx (k := 2) rfl hL hi (by decide), ?_⟩
  show C 1496 (LVL i) [.int (xs (nI i + 2).toNatClampNeg), .int (xs (nI i + 1).toNatClampNeg), .ref 0] w ca sl
  rw [e1, e2]
  exact h
theorem m2_31 {r : Value} (hC : lwGo L xs z C) (hL : L ≤ 3072) (hi : i + 6 ≤ L) (h : C 1512 (LVL i) [.int (xs (i + 2)), .int (xs (i + 1)), .ref 104, r] w ca sl) : C 1499 (LVL i) [r] w ca sl := by
  have e1 := lxc (k := 1) (K := 1) rfl hL hi (by decide)
  have e2 := lxc (k := 2) (K := 2) rfl hL hi (by decide)
  refine hC tL_m2_31 [(1512, [0, 1, 2, 3, 4])] tL_m2_31_ok _ _ _ _ _ _ ?_
  refine ⟨lx (k := 1) rfl hL hi (by decide), lx (k := 2) rfl hL hi (by decide), ?_⟩
  show C 1512 (LVL i) [.int (xs (nI i + 2).toNatClampNeg), .int (xs (nI i + 1).toNatClampNeg), .ref 104, r] w ca sl
  rw [e1, e2]
  exact h
theorem m3_31 {x y : Int64} (hC : lwGo L xs z C) (hxy : x = y) (h : C 23 (LVL (i + 6)) [] w ca sl) : C 1515 (LVL i) [.long y, .long x] w ca sl := by
  subst hxy
  refine hC tL_m3_31 [(1714, [0, 1, 2, 3, 4])] tL_m3_31_ok _ _ _ _ _ _ ⟨fun _ => lw_next hC h, fun c => ?_⟩
  exact absurd (show lg_cmp x x = 0 by simp [lg_cmp]) c
theorem m1_32 (hC : lwGo L xs z C) (hL : L ≤ 3072) (hi : i + 6 ≤ L) (h : C 1534 (LVL i) [.int (xs (i + 2)), .int (xs (i + 1)), .ref 0] w ca sl) : C 1521 (LVL i) [] w ca sl := by
  have e1 := lxc (k := 1) (K := 1) rfl hL hi (by decide)
  have e2 := lxc (k := 2) (K := 2) rfl hL hi (by decide)
  refine hC tL_m1_32 [(1534, [0, 1, 2, 3, 4])] tL_m1_32_ok _ _ _ _ _ _ ?_
  refine ⟨lx (k := 1) rfl hL hi (by decide), lx (k := 2) rfl hL hi (by decide), ?_⟩
  show C 1534 (LVL i) [.int (xs (nI i + 2).toNatClampNeg), .int (xs (nI i + 1).toNatClampNeg), .ref 0] w ca sl
  rw [e1, e2]
  exact h
theorem m2_32 {r : Value} (hC : lwGo L xs z C) (hL : L ≤ 3072) (hi : i + 6 ≤ L) (h : C 1550 (LVL i) [.int (xs (i + 2)), .int (xs (i + 1)), .ref 104, r] w ca sl) : C 1537 (LVL i) [r] w ca sl := by
  have e1 := lxc (k := 1) (K := 1) rfl hL hi (by decide)
  have e2 := lxc (k := 2) (K := 2) rfl hL hi (by decide)
  refine hC tL_m2_32 [(1550, [0, 1, 2, 3, 4])] tL_m2_32_ok _ _ _ _ _ _ ?_
  refine ⟨lx (k := 1) rfl hL hi (by decide), lx (k := 2) rfl hL hi (by decide), ?_⟩
  show C 1550 (LVL i) [.int (xs (nI i + 2).toNatClampNeg), .int (xs (nI i + 1).toNatClampNeg), .ref 104, r] w ca sl
  rw [e1, e2]
  exact h
theorem m3_32 {x y : Int32} (hC : lwGo L xs z C) (hxy : x = y) (h : C 23 (LVL (i + 6)) [] w ca sl) : C 1553 (LVL i) [.int y, .int x] w ca sl :=
  hC tL_m3_32 [(1714, [0, 1, 2, 3, 4])] tL_m3_32_ok _ _ _ _ _ _ ⟨fun _ => lw_next hC h, fun c => absurd hxy c⟩
theorem m1_33 (hC : lwGo L xs z C) (hL : L ≤ 3072) (hi : i + 6 ≤ L) (h : C 1565 (LVL i) [.int (xs (i + 1)), .ref 0] w ca sl) : C 1558 (LVL i) [] w ca sl := by
  have e1 := lxc (k := 1) (K := 1) rfl hL hi (by decide)
  refine hC tL_m1_33 [(1565, [0, 1, 2, 3, 4])] tL_m1_33_ok _ _ _ _ _ _ ?_
  refine ⟨lx (k := 1) rfl hL hi (by decide), ?_⟩
  show C 1565 (LVL i) [.int (xs (nI i + 1).toNatClampNeg), .ref 0] w ca sl
  rw [e1]
  exact h
theorem m2_33 {r : Value} (hC : lwGo L xs z C) (hL : L ≤ 3072) (hi : i + 6 ≤ L) (h : C 1575 (LVL i) [.int (xs (i + 1)), .ref 104, r] w ca sl) : C 1568 (LVL i) [r] w ca sl := by
  have e1 := lxc (k := 1) (K := 1) rfl hL hi (by decide)
  refine hC tL_m2_33 [(1575, [0, 1, 2, 3, 4])] tL_m2_33_ok _ _ _ _ _ _ ?_
  refine ⟨lx (k := 1) rfl hL hi (by decide), ?_⟩
  show C 1575 (LVL i) [.int (xs (nI i + 1).toNatClampNeg), .ref 104, r] w ca sl
  rw [e1]
  exact h
theorem m3_33 {x y : Int64} (hC : lwGo L xs z C) (hxy : x = y) (h : C 23 (LVL (i + 6)) [] w ca sl) : C 1578 (LVL i) [.long y, .long x] w ca sl := by
  subst hxy
  refine hC tL_m3_33 [(1714, [0, 1, 2, 3, 4])] tL_m3_33_ok _ _ _ _ _ _ ⟨fun _ => lw_next hC h, fun c => ?_⟩
  exact absurd (show lg_cmp x x = 0 by simp [lg_cmp]) c
theorem m1_34 (hC : lwGo L xs z C) (hL : L ≤ 3072) (hi : i + 6 ≤ L) (h : C 1610 (LVL i) [.ref 103, .int (xs (i + 4)), .int (xs (i + 3)), .int (xs (i + 2)), .int (xs (i + 1)), .ref 0] w ca sl) : C 1584 (LVL i) [] w ca sl := by
  have e1 := lxc (k := 1) (K := 1) rfl hL hi (by decide)
  have e2 := lxc (k := 2) (K := 2) rfl hL hi (by decide)
  have e3 := lxc (k := 3) (K := 3) rfl hL hi (by decide)
  have e4 := lxc (k := 4) (K := 4) rfl hL hi (by decide)
  refine hC tL_m1_34 [(1610, [0, 1, 2, 3, 4])] tL_m1_34_ok _ _ _ _ _ _ ?_
  refine ⟨lx (k := 1) rfl hL hi (by decide), lx (k := 2) rfl hL hi (by decide), lx (k := 3) rfl hL hi (by decide), lx (k := 4) rfl hL hi (by decide), ?_⟩
  show C 1610 (LVL i) [.ref 103, .int (xs (nI i + 4).toNatClampNeg), .int (xs (nI i + 3).toNatClampNeg), .int (xs (nI i + 2).toNatClampNeg), .int (xs (nI i + 1).toNatClampNeg), .ref 0] w ca sl
  rw [e1, e2, e3, e4]
  exact h
abbrev LVL5 (i : Nat) (r : Int32) : q_L := [(0, .retAddr 90), (1, .ref 0), (2, .ref 104), (3, .ref 103), (4, .int (nI i)), (5, .int r)]
abbrev LVL6 (i : Nat) (r v : Int32) : q_L := [(0, .retAddr 90), (1, .ref 0), (2, .ref 104), (3, .ref 103), (4, .int (nI i)), (5, .int r), (6, .int v)]
theorem m2_34 {r : Int32} (hC : lwGo L xs z C) (hL : L ≤ 3072) (hi : i + 6 ≤ L) (h : C 1640 (LVL5 i r) [.int (xs (i + 4)), .int (xs (i + 3)), .int (xs (i + 2)), .int (xs (i + 1)), .ref 104] w ca sl) : C 1613 (LVL i) [.int r] w ca sl := by
  have e1 := lxc (k := 1) (K := 1) rfl hL hi (by decide)
  have e2 := lxc (k := 2) (K := 2) rfl hL hi (by decide)
  have e3 := lxc (k := 3) (K := 3) rfl hL hi (by decide)
  have e4 := lxc (k := 4) (K := 4) rfl hL hi (by decide)
  refine hC tL_m2_34 [(1640, [0, 1, 2, 3, 4, 5])] tL_m2_34_ok _ _ _ _ _ _ ?_
  refine ⟨lx (k := 1) rfl hL hi (by decide), lx (k := 2) rfl hL hi (by decide), lx (k := 3) rfl hL hi (by decide), lx (k := 4) rfl hL hi (by decide), ?_⟩
  show C 1640 (LVL5 i r) [.int (xs (nI i + 4).toNatClampNeg), .int (xs (nI i + 3).toNatClampNeg), .int (xs (nI i + 2).toNatClampNeg), .int (xs (nI i + 1).toNatClampNeg), .ref 104] w ca sl
  rw [e1, e2, e3, e4]
  exact h
theorem m3_34 {r v : Int32} (hC : lwGo L xs z C) (h : C 1646 (LVL6 i r v) [.ref 104] w ca sl) : C 1643 (LVL5 i r) [.int v] w ca sl := hC tL_m3_34 [(1646, [0, 1, 2, 3, 4, 5, 6])] tL_m3_34_ok _ _ _ _ _ _ h
theorem m1_35 (hC : lwGo L xs z C) (hL : L ≤ 3072) (hi : i + 6 ≤ L) (h : C 1683 (LVL i) [.int (xs (i + 1)), .ref 0] w ca sl) : C 1676 (LVL i) [] w ca sl := by
  have e1 := lxc (k := 1) (K := 1) rfl hL hi (by decide)
  refine hC tL_m1_35 [(1683, [0, 1, 2, 3, 4])] tL_m1_35_ok _ _ _ _ _ _ ?_
  refine ⟨lx (k := 1) rfl hL hi (by decide), ?_⟩
  show C 1683 (LVL i) [.int (xs (nI i + 1).toNatClampNeg), .ref 0] w ca sl
  rw [e1]
  exact h
theorem m2_35 {r : Value} (hC : lwGo L xs z C) (hL : L ≤ 3072) (hi : i + 6 ≤ L) (h : C 1693 (LVL i) [.int (xs (i + 1)), .ref 104, r] w ca sl) : C 1686 (LVL i) [r] w ca sl := by
  have e1 := lxc (k := 1) (K := 1) rfl hL hi (by decide)
  refine hC tL_m2_35 [(1693, [0, 1, 2, 3, 4])] tL_m2_35_ok _ _ _ _ _ _ ?_
  refine ⟨lx (k := 1) rfl hL hi (by decide), ?_⟩
  show C 1693 (LVL i) [.int (xs (nI i + 1).toNatClampNeg), .ref 104, r] w ca sl
  rw [e1]
  exact h
theorem m3_35 {x y : Int32} (hC : lwGo L xs z C) (hxy : x = y) (h : C 23 (LVL (i + 6)) [] w ca sl) : C 1696 (LVL i) [.int y, .int x] w ca sl :=
  hC tL_m3_35 [(1714, [0, 1, 2, 3, 4])] tL_m3_35_ok _ _ _ _ _ _ ⟨fun _ => lw_next hC h, fun c => absurd hxy c⟩
theorem m1_36 (hC : lwGo L xs z C) (hL : L ≤ 3072) (hi : i + 6 ≤ L) (h : C 1702 (LVL i) [.ref 0] w ca sl) : C 1701 (LVL i) [] w ca sl := by
  refine hC tL_m1_36 [(1702, [0, 1, 2, 3, 4])] tL_m1_36_ok _ _ _ _ _ _ ?_
  show C 1702 (LVL i) [.ref 0] w ca sl
  exact h
theorem m2_36 {r : Value} (hC : lwGo L xs z C) (hL : L ≤ 3072) (hi : i + 6 ≤ L) (h : C 1706 (LVL i) [.ref 104, r] w ca sl) : C 1705 (LVL i) [r] w ca sl := by
  refine hC tL_m2_36 [(1706, [0, 1, 2, 3, 4])] tL_m2_36_ok _ _ _ _ _ _ ?_
  show C 1706 (LVL i) [.ref 104, r] w ca sl
  exact h
theorem m3_36 {x y : Int32} (hC : lwGo L xs z C) (hxy : x = y) (h : C 23 (LVL (i + 6)) [] w ca sl) : C 1709 (LVL i) [.int y, .int x] w ca sl :=
  hC tL_m3_36 [(1714, [0, 1, 2, 3, 4])] tL_m3_36_ok _ _ _ _ _ _ ⟨fun _ => lw_next hC h, fun c => absurd hxy c⟩
end LAW2
set_option maxRecDepth 100000 in
theorem m4_34 {Ls i ca sl : Nat} {xs : Nat → Int32} {z : q_K} {C : q_N} {r v t : Int32} {f : Nat → Int64} {Mx : List q_C} (tl : Nat) (hb : Bool) (td : Int32) (tr : Int32) (lf : Int32) (tx : Nat → Int32) (rb : Value) (N : NT) (B : BT) (R : RT) (L : LT) (G : GT) (B2 : BT) (R2 : RT) (L2 : LT) (G2 : GT) (P : PT) (W : WT) (S : ST) (Cc : CT) (Y : YT) (D : DT) (hC : lwGo Ls xs z C) (hrt : t = r) (hv : r = 0 → f 0 = v.toInt64) (h : C 23 (LVL (i + 6)) [] ((stripW 0 tl hb td tr lf tx rb N B R L G B2 R2 L2 G2 P W S Cc Y D) ++ ([.inl (2, 1, .inr f)] ++ Mx)) ca sl) : C 1649 (LVL6 i r v) [.int t] ((stripW 0 tl hb td tr lf tx rb N B R L G B2 R2 L2 G2 P W S Cc Y D) ++ ([.inl (2, 1, .inr f)] ++ Mx)) ca sl := by
  refine hC tL_m4_34 [(1714, [0, 1, 2, 3, 4])] tL_m4_34_ok _ _ _ _ _ _ ⟨fun _ => ?_, fun c => absurd hrt c⟩
  refine ⟨fun _ => lw_next hC h, fun c => ?_⟩
  have c : r = 0 := c
  refine ⟨by unfold vp_in; decide, fun _ => lw_next hC h, fun c2 => ?_⟩
  exact absurd (show lg_cmp (f 0) v.toInt64 = 0 by rw [hv c]; simp [lg_cmp]) c2

