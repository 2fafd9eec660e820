/-! ===== links: by program out of the tables ===== -/
def q_isN : Cond → Bool
  | .fieldLinkNest .. => true
  | .methodLinkNest .. => true
  | _ => false
def q_nest : List Cond := tables_1.filter q_isN
theorem q_nest_i {w : Cond} (i : Nat) (h : tables_1[i]? = some w) (hg : q_isN w = true) : w ∈ q_nest := List.mem_filter.mpr ⟨List.mem_of_getElem? h, hg⟩
theorem q_ws_of {C : String} {T : u_T} {N : Nat} (ix : List Nat) (h : ((List.range N).all (fun k => decide (tables_1[ix.getD k 0]? = some (u_lay C T k)) && goodWord (u_lay C T k))) = true) : ∀ w ∈ u_ws C T N, w ∈ q_G := by
  intro w hw
  obtain ⟨k, hk, rfl⟩ := List.mem_map.mp hw
  have h1 := List.all_eq_true.mp h k hk
  simp only [Bool.and_eq_true, decide_eq_true_eq] at h1
  exact q_G_i _ h1.1 h1.2
/-- a field of a class, under its entry in another one's file -/
def q_flok (own : String) (f : Nat × Nat × Nat) : Prop := ∃ (C : String) (T : u_T) (N : Nat), vwCl[f.2.1]? = some (C, T, N) ∧ f.2.2 < N ∧ ((Cond.fieldLink own f.1 (T f.2.2).1 (T f.2.2).2.1 (T f.2.2).2.2.1 ∈ q_G ∧ (T f.2.2).1 = C) ∨ ((T f.2.2).2.2.2 = false ∧ ∃ host, Cond.fieldLinkNest own f.1 (T f.2.2).1 (T f.2.2).2.1 (T f.2.2).2.2.1 host ∈ q_nest) ∨ ((T f.2.2).2.2.2 = true ∧ C ≠ own ∧ ∃ host, Cond.fieldLinkNest own f.1 (T f.2.2).1 (T f.2.2).2.1 (T f.2.2).2.2.1 host ∈ q_nest))
theorem q_fl1 {own : String} {idx ci k : Nat} {C : String} {T : u_T} {N : Nat} (i : Nat) (hc : vwCl[ci]? = some (C, T, N)) (hk : k < N) (ht : tables_1[i]? = some (.fieldLink own idx (T k).1 (T k).2.1 (T k).2.2.1)) (hd : (T k).1 = C) : q_flok own (idx, ci, k) := ⟨C, T, N, hc, hk, Or.inl ⟨q_G_i i ht rfl, hd⟩⟩
theorem q_fl2 {own host : String} {idx ci k : Nat} {C : String} {T : u_T} {N : Nat} (i : Nat) (hc : vwCl[ci]? = some (C, T, N)) (hk : k < N) (ht : tables_1[i]? = some (.fieldLinkNest own idx (T k).1 (T k).2.1 (T k).2.2.1 host)) (hf : (T k).2.2.2 = false) : q_flok own (idx, ci, k) := ⟨C, T, N, hc, hk, Or.inr (Or.inl ⟨hf, host, q_nest_i i ht rfl⟩)⟩
theorem q_fl3 {own host : String} {idx ci k : Nat} {C : String} {T : u_T} {N : Nat} (i : Nat) (hc : vwCl[ci]? = some (C, T, N)) (hk : k < N) (ht : tables_1[i]? = some (.fieldLinkNest own idx (T k).1 (T k).2.1 (T k).2.2.1 host)) (hf : (T k).2.2.2 = true) (hn : C ≠ own) : q_flok own (idx, ci, k) := ⟨C, T, N, hc, hk, Or.inr (Or.inr ⟨hf, hn, host, q_nest_i i ht rfl⟩)⟩

theorem wsX0_ok : ∀ w ∈ u_ws RX0 TX0 8, w ∈ q_G := q_ws_of [184, 186, 188, 190, 192, 194, 196, 198] (by decide +kernel)
theorem wsX1_ok : ∀ w ∈ u_ws RX1 TX1 8, w ∈ q_G := q_ws_of [423, 425, 427, 429, 431, 433, 435, 437] (by decide +kernel)
theorem wsX2_ok : ∀ w ∈ u_ws RX2 TX2 9, w ∈ q_G := q_ws_of [139, 141, 143, 145, 147, 149, 151, 153, 155] (by decide +kernel)
theorem wsX3_ok : ∀ w ∈ u_ws RX3 TX3 8, w ∈ q_G := q_ws_of [104, 106, 108, 110, 112, 114, 116, 118] (by decide +kernel)
theorem wsX4_ok : ∀ w ∈ u_ws RX4 TX4 4, w ∈ q_G := q_ws_of [490, 492, 494, 496] (by decide +kernel)
theorem wsX5_ok : ∀ w ∈ u_ws RX5 TX5 7, w ∈ q_G := q_ws_of [393, 395, 397, 399, 401, 403, 405] (by decide +kernel)
theorem wsX6_ok : ∀ w ∈ u_ws RX6 TX6 7, w ∈ q_G := q_ws_of [333, 335, 337, 339, 341, 343, 345] (by decide +kernel)
theorem wsX7_ok : ∀ w ∈ u_ws RX7 TX7 13, w ∈ q_G := q_ws_of [284, 286, 288, 290, 292, 294, 296, 298, 300, 302, 304, 306, 308] (by decide +kernel)
theorem wsX8_ok : ∀ w ∈ u_ws RX8 TX8 8, w ∈ q_G := q_ws_of [68, 70, 72, 74, 76, 78, 80, 82] (by decide +kernel)
theorem wsX9_ok : ∀ w ∈ u_ws RX9 TX9 9, w ∈ q_G := q_ws_of [458, 460, 462, 464, 466, 468, 470, 472, 474] (by decide +kernel)
theorem wsX10_ok : ∀ w ∈ u_ws RX10 TX10 7, w ∈ q_G := q_ws_of [363, 365, 367, 369, 371, 373, 375] (by decide +kernel)
theorem wsX11_ok : ∀ w ∈ u_ws RX11 TX11 15, w ∈ q_G := q_ws_of [514, 516, 518, 520, 522, 524, 526, 528, 530, 532, 534, 536, 538, 540, 542] (by decide +kernel)
theorem wsX12_ok : ∀ w ∈ u_ws RX12 TX12 29, w ∈ q_G := q_ws_of [1515, 1517, 1519, 1521, 1523, 1525, 1527, 1529, 1531, 1533, 1535, 1537, 1539, 1541, 1543, 1545, 1547, 1549, 1551, 1553, 1555, 1557, 1559, 1561, 1563, 1565, 1567, 1569, 1571] (by decide +kernel)
theorem wsX13_ok : ∀ w ∈ u_ws RX13 TX13 8, w ∈ q_G := q_ws_of [1249, 1250, 1251, 1252, 1253, 1272, 1268, 1270] (by decide +kernel)
theorem wsX14_ok : ∀ w ∈ u_ws RX14 TX14 53, w ∈ q_G := q_ws_of [1327, 1329, 1331, 1333, 1335, 1337, 1339, 1341, 1343, 1345, 1347, 1349, 1351, 1353, 1355, 1357, 1359, 1361, 1363, 1365, 1367, 1369, 1371, 1373, 1375, 1377, 1379, 1381, 1383, 1385, 1387, 1389, 1391, 1393, 1395, 1397, 1399, 1401, 1403, 1405, 1407, 1409, 1411, 1413, 1415, 1417, 1419, 1421, 1423, 1425, 1427, 1429, 1431] (by decide +kernel)
def flX0 : List (Nat × Nat × Nat) := [(50, 8, 7), (53, 3, 7), (54, 2, 8), (9, 0, 0), (15, 0, 1), (19, 0, 2), (22, 0, 3), (46, 0, 4), (28, 0, 5), (35, 0, 6), (42, 0, 7)]
theorem flX0_50 : q_flok RX0 (50, 8, 7) := q_fl1 64 rfl (by decide) (by decide +kernel) rfl
theorem flX0_53 : q_flok RX0 (53, 3, 7) := q_fl1 102 rfl (by decide) (by decide +kernel) rfl
theorem flX0_54 : q_flok RX0 (54, 2, 8) := q_fl1 137 rfl (by decide) (by decide +kernel) rfl
theorem flX0_9 : q_flok RX0 (9, 0, 0) := q_fl1 158 rfl (by decide) (by decide +kernel) rfl
theorem flX0_15 : q_flok RX0 (15, 0, 1) := q_fl1 163 rfl (by decide) (by decide +kernel) rfl
theorem flX0_19 : q_flok RX0 (19, 0, 2) := q_fl1 164 rfl (by decide) (by decide +kernel) rfl
theorem flX0_22 : q_flok RX0 (22, 0, 3) := q_fl1 166 rfl (by decide) (by decide +kernel) rfl
theorem flX0_46 : q_flok RX0 (46, 0, 4) := q_fl1 168 rfl (by decide) (by decide +kernel) rfl
theorem flX0_28 : q_flok RX0 (28, 0, 5) := q_fl1 169 rfl (by decide) (by decide +kernel) rfl
theorem flX0_35 : q_flok RX0 (35, 0, 6) := q_fl1 174 rfl (by decide) (by decide +kernel) rfl
theorem flX0_42 : q_flok RX0 (42, 0, 7) := q_fl1 181 rfl (by decide) (by decide +kernel) rfl
theorem flX0_ok : ∀ f ∈ flX0, q_flok RX0 f := List.forall_mem_cons.mpr ⟨flX0_50, List.forall_mem_cons.mpr ⟨flX0_53, List.forall_mem_cons.mpr ⟨flX0_54, List.forall_mem_cons.mpr ⟨flX0_9, List.forall_mem_cons.mpr ⟨flX0_15, List.forall_mem_cons.mpr ⟨flX0_19, List.forall_mem_cons.mpr ⟨flX0_22, List.forall_mem_cons.mpr ⟨flX0_46, List.forall_mem_cons.mpr ⟨flX0_28, List.forall_mem_cons.mpr ⟨flX0_35, List.forall_mem_cons.mpr ⟨flX0_42, fun _ h => nomatch h⟩⟩⟩⟩⟩⟩⟩⟩⟩⟩⟩
def flX1 : List (Nat × Nat × Nat) := [(43, 0, 0), (48, 0, 6), (11, 1, 0), (15, 1, 1), (18, 1, 2), (21, 1, 3), (24, 1, 4), (27, 1, 5), (30, 1, 6), (33, 1, 7)]
theorem flX1_43 : q_flok RX1 (43, 0, 0) := q_fl1 160 rfl (by decide) (by decide +kernel) rfl
theorem flX1_48 : q_flok RX1 (48, 0, 6) := q_fl1 177 rfl (by decide) (by decide +kernel) rfl
theorem flX1_11 : q_flok RX1 (11, 1, 0) := q_fl1 414 rfl (by decide) (by decide +kernel) rfl
theorem flX1_15 : q_flok RX1 (15, 1, 1) := q_fl1 415 rfl (by decide) (by decide +kernel) rfl
theorem flX1_18 : q_flok RX1 (18, 1, 2) := q_fl1 416 rfl (by decide) (by decide +kernel) rfl
theorem flX1_21 : q_flok RX1 (21, 1, 3) := q_fl1 417 rfl (by decide) (by decide +kernel) rfl
theorem flX1_24 : q_flok RX1 (24, 1, 4) := q_fl1 418 rfl (by decide) (by decide +kernel) rfl
theorem flX1_27 : q_flok RX1 (27, 1, 5) := q_fl1 419 rfl (by decide) (by decide +kernel) rfl
theorem flX1_30 : q_flok RX1 (30, 1, 6) := q_fl1 420 rfl (by decide) (by decide +kernel) rfl
theorem flX1_33 : q_flok RX1 (33, 1, 7) := q_fl1 421 rfl (by decide) (by decide +kernel) rfl
theorem flX1_ok : ∀ f ∈ flX1, q_flok RX1 f := List.forall_mem_cons.mpr ⟨flX1_43, List.forall_mem_cons.mpr ⟨flX1_48, List.forall_mem_cons.mpr ⟨flX1_11, List.forall_mem_cons.mpr ⟨flX1_15, List.forall_mem_cons.mpr ⟨flX1_18, List.forall_mem_cons.mpr ⟨flX1_21, List.forall_mem_cons.mpr ⟨flX1_24, List.forall_mem_cons.mpr ⟨flX1_27, List.forall_mem_cons.mpr ⟨flX1_30, List.forall_mem_cons.mpr ⟨flX1_33, fun _ h => nomatch h⟩⟩⟩⟩⟩⟩⟩⟩⟩⟩
def flX10 : List (Nat × Nat × Nat) := [(129, 8, 0), (132, 8, 1), (97, 8, 2), (135, 8, 3), (43, 8, 4), (46, 8, 5), (49, 8, 6), (76, 8, 7), (69, 0, 0), (37, 0, 5), (52, 0, 6), (62, 6, 0), (33, 10, 0), (11, 10, 1), (15, 10, 2), (18, 10, 3), (21, 10, 4), (27, 10, 5), (30, 10, 6)]
theorem flX10_129 : q_flok RX10 (129, 8, 0) := q_fl1 47 rfl (by decide) (by decide +kernel) rfl
theorem flX10_132 : q_flok RX10 (132, 8, 1) := q_fl1 49 rfl (by decide) (by decide +kernel) rfl
theorem flX10_97 : q_flok RX10 (97, 8, 2) := q_fl1 51 rfl (by decide) (by decide +kernel) rfl
theorem flX10_135 : q_flok RX10 (135, 8, 3) := q_fl1 53 rfl (by decide) (by decide +kernel) rfl
theorem flX10_43 : q_flok RX10 (43, 8, 4) := q_fl1 55 rfl (by decide) (by decide +kernel) rfl
theorem flX10_46 : q_flok RX10 (46, 8, 5) := q_fl1 58 rfl (by decide) (by decide +kernel) rfl
theorem flX10_49 : q_flok RX10 (49, 8, 6) := q_fl1 61 rfl (by decide) (by decide +kernel) rfl
theorem flX10_76 : q_flok RX10 (76, 8, 7) := q_fl1 65 rfl (by decide) (by decide +kernel) rfl
theorem flX10_69 : q_flok RX10 (69, 0, 0) := q_fl1 159 rfl (by decide) (by decide +kernel) rfl
theorem flX10_37 : q_flok RX10 (37, 0, 5) := q_fl1 170 rfl (by decide) (by decide +kernel) rfl
theorem flX10_52 : q_flok RX10 (52, 0, 6) := q_fl1 175 rfl (by decide) (by decide +kernel) rfl
theorem flX10_62 : q_flok RX10 (62, 6, 0) := q_fl1 318 rfl (by decide) (by decide +kernel) rfl
theorem flX10_33 : q_flok RX10 (33, 10, 0) := q_fl1 354 rfl (by decide) (by decide +kernel) rfl
theorem flX10_11 : q_flok RX10 (11, 10, 1) := q_fl1 355 rfl (by decide) (by decide +kernel) rfl
theorem flX10_15 : q_flok RX10 (15, 10, 2) := q_fl1 357 rfl (by decide) (by decide +kernel) rfl
theorem flX10_18 : q_flok RX10 (18, 10, 3) := q_fl1 359 rfl (by decide) (by decide +kernel) rfl
theorem flX10_21 : q_flok RX10 (21, 10, 4) := q_fl1 360 rfl (by decide) (by decide +kernel) rfl
theorem flX10_27 : q_flok RX10 (27, 10, 5) := q_fl1 361 rfl (by decide) (by decide +kernel) rfl
theorem flX10_30 : q_flok RX10 (30, 10, 6) := q_fl1 362 rfl (by decide) (by decide +kernel) rfl
theorem flX10_ok : ∀ f ∈ flX10, q_flok RX10 f := List.forall_mem_cons.mpr ⟨flX10_129, List.forall_mem_cons.mpr ⟨flX10_132, List.forall_mem_cons.mpr ⟨flX10_97, List.forall_mem_cons.mpr ⟨flX10_135, List.forall_mem_cons.mpr ⟨flX10_43, List.forall_mem_cons.mpr ⟨flX10_46, List.forall_mem_cons.mpr ⟨flX10_49, List.forall_mem_cons.mpr ⟨flX10_76, List.forall_mem_cons.mpr ⟨flX10_69, List.forall_mem_cons.mpr ⟨flX10_37, List.forall_mem_cons.mpr ⟨flX10_52, List.forall_mem_cons.mpr ⟨flX10_62, List.forall_mem_cons.mpr ⟨flX10_33, List.forall_mem_cons.mpr ⟨flX10_11, List.forall_mem_cons.mpr ⟨flX10_15, List.forall_mem_cons.mpr ⟨flX10_18, List.forall_mem_cons.mpr ⟨flX10_21, List.forall_mem_cons.mpr ⟨flX10_27, List.forall_mem_cons.mpr ⟨flX10_30, fun _ h => nomatch h⟩⟩⟩⟩⟩⟩⟩⟩⟩⟩⟩⟩⟩⟩⟩⟩⟩⟩⟩
def flX11 : List (Nat × Nat × Nat) := [(208, 8, 7), (108, 3, 7), (341, 2, 8), (338, 0, 0), (204, 0, 5), (104, 0, 6), (254, 0, 7), (95, 7, 0), (131, 7, 1), (193, 6, 0), (171, 6, 1), (178, 6, 2), (181, 6, 3), (184, 6, 4), (187, 6, 5), (123, 6, 6), (223, 10, 1), (335, 10, 2), (244, 5, 5), (251, 5, 6), (125, 1, 7), (302, 9, 5), (299, 9, 6), (290, 9, 7), (313, 4, 0), (316, 4, 2), (305, 4, 3), (9, 11, 0), (76, 11, 1), (16, 11, 2), (20, 11, 3), (28, 11, 4), (116, 11, 5), (120, 11, 6), (35, 11, 7), (44, 11, 8), (51, 11, 9), (58, 11, 10), (65, 11, 11), (72, 11, 12), (128, 11, 13), (98, 11, 14)]
theorem flX11_208 : q_flok RX11 (208, 8, 7) := q_fl1 67 rfl (by decide) (by decide +kernel) rfl
theorem flX11_108 : q_flok RX11 (108, 3, 7) := q_fl1 103 rfl (by decide) (by decide +kernel) rfl
theorem flX11_341 : q_flok RX11 (341, 2, 8) := q_fl1 138 rfl (by decide) (by decide +kernel) rfl
theorem flX11_338 : q_flok RX11 (338, 0, 0) := q_fl1 162 rfl (by decide) (by decide +kernel) rfl
theorem flX11_204 : q_flok RX11 (204, 0, 5) := q_fl1 173 rfl (by decide) (by decide +kernel) rfl
theorem flX11_104 : q_flok RX11 (104, 0, 6) := q_fl1 176 rfl (by decide) (by decide +kernel) rfl
theorem flX11_254 : q_flok RX11 (254, 0, 7) := q_fl1 183 rfl (by decide) (by decide +kernel) rfl
theorem flX11_95 : q_flok RX11 (95, 7, 0) := q_fl1 270 rfl (by decide) (by decide +kernel) rfl
theorem flX11_131 : q_flok RX11 (131, 7, 1) := q_fl1 272 rfl (by decide) (by decide +kernel) rfl
theorem flX11_193 : q_flok RX11 (193, 6, 0) := q_fl1 320 rfl (by decide) (by decide +kernel) rfl
theorem flX11_171 : q_flok RX11 (171, 6, 1) := q_fl1 322 rfl (by decide) (by decide +kernel) rfl
theorem flX11_178 : q_flok RX11 (178, 6, 2) := q_fl1 324 rfl (by decide) (by decide +kernel) rfl
theorem flX11_181 : q_flok RX11 (181, 6, 3) := q_fl1 326 rfl (by decide) (by decide +kernel) rfl
theorem flX11_184 : q_flok RX11 (184, 6, 4) := q_fl1 328 rfl (by decide) (by decide +kernel) rfl
theorem flX11_187 : q_flok RX11 (187, 6, 5) := q_fl1 330 rfl (by decide) (by decide +kernel) rfl
theorem flX11_123 : q_flok RX11 (123, 6, 6) := q_fl1 332 rfl (by decide) (by decide +kernel) rfl
theorem flX11_223 : q_flok RX11 (223, 10, 1) := q_fl1 356 rfl (by decide) (by decide +kernel) rfl
theorem flX11_335 : q_flok RX11 (335, 10, 2) := q_fl1 358 rfl (by decide) (by decide +kernel) rfl
theorem flX11_244 : q_flok RX11 (244, 5, 5) := q_fl1 390 rfl (by decide) (by decide +kernel) rfl
theorem flX11_251 : q_flok RX11 (251, 5, 6) := q_fl1 392 rfl (by decide) (by decide +kernel) rfl
theorem flX11_125 : q_flok RX11 (125, 1, 7) := q_fl1 422 rfl (by decide) (by decide +kernel) rfl
theorem flX11_302 : q_flok RX11 (302, 9, 5) := q_fl1 452 rfl (by decide) (by decide +kernel) rfl
theorem flX11_299 : q_flok RX11 (299, 9, 6) := q_fl1 454 rfl (by decide) (by decide +kernel) rfl
theorem flX11_290 : q_flok RX11 (290, 9, 7) := q_fl1 456 rfl (by decide) (by decide +kernel) rfl
theorem flX11_313 : q_flok RX11 (313, 4, 0) := q_fl1 484 rfl (by decide) (by decide +kernel) rfl
theorem flX11_316 : q_flok RX11 (316, 4, 2) := q_fl1 487 rfl (by decide) (by decide +kernel) rfl
theorem flX11_305 : q_flok RX11 (305, 4, 3) := q_fl1 489 rfl (by decide) (by decide +kernel) rfl
theorem flX11_9 : q_flok RX11 (9, 11, 0) := q_fl1 499 rfl (by decide) (by decide +kernel) rfl
theorem flX11_76 : q_flok RX11 (76, 11, 1) := q_fl1 500 rfl (by decide) (by decide +kernel) rfl
theorem flX11_16 : q_flok RX11 (16, 11, 2) := q_fl1 501 rfl (by decide) (by decide +kernel) rfl
theorem flX11_20 : q_flok RX11 (20, 11, 3) := q_fl1 502 rfl (by decide) (by decide +kernel) rfl
theorem flX11_28 : q_flok RX11 (28, 11, 4) := q_fl1 503 rfl (by decide) (by decide +kernel) rfl
theorem flX11_116 : q_flok RX11 (116, 11, 5) := q_fl1 504 rfl (by decide) (by decide +kernel) rfl
theorem flX11_120 : q_flok RX11 (120, 11, 6) := q_fl1 505 rfl (by decide) (by decide +kernel) rfl
theorem flX11_35 : q_flok RX11 (35, 11, 7) := q_fl1 506 rfl (by decide) (by decide +kernel) rfl
theorem flX11_44 : q_flok RX11 (44, 11, 8) := q_fl1 507 rfl (by decide) (by decide +kernel) rfl
theorem flX11_51 : q_flok RX11 (51, 11, 9) := q_fl1 508 rfl (by decide) (by decide +kernel) rfl
theorem flX11_58 : q_flok RX11 (58, 11, 10) := q_fl1 509 rfl (by decide) (by decide +kernel) rfl
theorem flX11_65 : q_flok RX11 (65, 11, 11) := q_fl1 510 rfl (by decide) (by decide +kernel) rfl
theorem flX11_72 : q_flok RX11 (72, 11, 12) := q_fl1 511 rfl (by decide) (by decide +kernel) rfl
theorem flX11_128 : q_flok RX11 (128, 11, 13) := q_fl1 512 rfl (by decide) (by decide +kernel) rfl
theorem flX11_98 : q_flok RX11 (98, 11, 14) := q_fl1 513 rfl (by decide) (by decide +kernel) rfl
theorem flX11_ok : ∀ f ∈ flX11, q_flok RX11 f := List.forall_mem_cons.mpr ⟨flX11_208, List.forall_mem_cons.mpr ⟨flX11_108, List.forall_mem_cons.mpr ⟨flX11_341, List.forall_mem_cons.mpr ⟨flX11_338, List.forall_mem_cons.mpr ⟨flX11_204, List.forall_mem_cons.mpr ⟨flX11_104, List.forall_mem_cons.mpr ⟨flX11_254, List.forall_mem_cons.mpr ⟨flX11_95, List.forall_mem_cons.mpr ⟨flX11_131, List.forall_mem_cons.mpr ⟨flX11_193, List.forall_mem_cons.mpr ⟨flX11_171, List.forall_mem_cons.mpr ⟨flX11_178, List.forall_mem_cons.mpr ⟨flX11_181, List.forall_mem_cons.mpr ⟨flX11_184, List.forall_mem_cons.mpr ⟨flX11_187, List.forall_mem_cons.mpr ⟨flX11_123, List.forall_mem_cons.mpr ⟨flX11_223, List.forall_mem_cons.mpr ⟨flX11_335, List.forall_mem_cons.mpr ⟨flX11_244, List.forall_mem_cons.mpr ⟨flX11_251, List.forall_mem_cons.mpr ⟨flX11_125, List.forall_mem_cons.mpr ⟨flX11_302, List.forall_mem_cons.mpr ⟨flX11_299, List.forall_mem_cons.mpr ⟨flX11_290, List.forall_mem_cons.mpr ⟨flX11_313, List.forall_mem_cons.mpr ⟨flX11_316, List.forall_mem_cons.mpr ⟨flX11_305, List.forall_mem_cons.mpr ⟨flX11_9, List.forall_mem_cons.mpr ⟨flX11_76, List.forall_mem_cons.mpr ⟨flX11_16, List.forall_mem_cons.mpr ⟨flX11_20, List.forall_mem_cons.mpr ⟨flX11_28, List.forall_mem_cons.mpr ⟨flX11_116, List.forall_mem_cons.mpr ⟨flX11_120, List.forall_mem_cons.mpr ⟨flX11_35, List.forall_mem_cons.mpr ⟨flX11_44, List.forall_mem_cons.mpr ⟨flX11_51, List.forall_mem_cons.mpr ⟨flX11_58, List.forall_mem_cons.mpr ⟨flX11_65, List.forall_mem_cons.mpr ⟨flX11_72, List.forall_mem_cons.mpr ⟨flX11_128, List.forall_mem_cons.mpr ⟨flX11_98, fun _ h => nomatch h⟩⟩⟩⟩⟩⟩⟩⟩⟩⟩⟩⟩⟩⟩⟩⟩⟩⟩⟩⟩⟩⟩⟩⟩⟩⟩⟩⟩⟩⟩⟩⟩⟩⟩⟩⟩⟩⟩⟩⟩⟩⟩
def flX12 : List (Nat × Nat × Nat) := [(9, 12, 0), (15, 12, 1), (19, 12, 2), (22, 12, 3), (89, 12, 4), (25, 12, 8), (28, 12, 9), (31, 12, 10), (34, 12, 11), (37, 12, 12), (40, 12, 13), (43, 12, 14), (46, 12, 15), (49, 12, 16), (52, 12, 17), (55, 12, 18), (58, 12, 19), (61, 12, 20), (64, 12, 21), (68, 12, 22), (71, 12, 23), (74, 12, 24), (77, 12, 25), (80, 12, 26), (83, 12, 27), (86, 12, 28)]
theorem flX12_9 : q_flok RX12 (9, 12, 0) := q_fl1 1460 rfl (by decide) (by decide +kernel) rfl
theorem flX12_15 : q_flok RX12 (15, 12, 1) := q_fl1 1462 rfl (by decide) (by decide +kernel) rfl
theorem flX12_19 : q_flok RX12 (19, 12, 2) := q_fl1 1464 rfl (by decide) (by decide +kernel) rfl
theorem flX12_22 : q_flok RX12 (22, 12, 3) := q_fl1 1466 rfl (by decide) (by decide +kernel) rfl
theorem flX12_89 : q_flok RX12 (89, 12, 4) := q_fl1 1468 rfl (by decide) (by decide +kernel) rfl
theorem flX12_25 : q_flok RX12 (25, 12, 8) := q_fl1 1473 rfl (by decide) (by decide +kernel) rfl
theorem flX12_28 : q_flok RX12 (28, 12, 9) := q_fl1 1475 rfl (by decide) (by decide +kernel) rfl
theorem flX12_31 : q_flok RX12 (31, 12, 10) := q_fl1 1477 rfl (by decide) (by decide +kernel) rfl
theorem flX12_34 : q_flok RX12 (34, 12, 11) := q_fl1 1479 rfl (by decide) (by decide +kernel) rfl
theorem flX12_37 : q_flok RX12 (37, 12, 12) := q_fl1 1481 rfl (by decide) (by decide +kernel) rfl
theorem flX12_40 : q_flok RX12 (40, 12, 13) := q_fl1 1483 rfl (by decide) (by decide +kernel) rfl
theorem flX12_43 : q_flok RX12 (43, 12, 14) := q_fl1 1485 rfl (by decide) (by decide +kernel) rfl
theorem flX12_46 : q_flok RX12 (46, 12, 15) := q_fl1 1487 rfl (by decide) (by decide +kernel) rfl
theorem flX12_49 : q_flok RX12 (49, 12, 16) := q_fl1 1489 rfl (by decide) (by decide +kernel) rfl
theorem flX12_52 : q_flok RX12 (52, 12, 17) := q_fl1 1491 rfl (by decide) (by decide +kernel) rfl
theorem flX12_55 : q_flok RX12 (55, 12, 18) := q_fl1 1493 rfl (by decide) (by decide +kernel) rfl
theorem flX12_58 : q_flok RX12 (58, 12, 19) := q_fl1 1495 rfl (by decide) (by decide +kernel) rfl
theorem flX12_61 : q_flok RX12 (61, 12, 20) := q_fl1 1497 rfl (by decide) (by decide +kernel) rfl
theorem flX12_64 : q_flok RX12 (64, 12, 21) := q_fl1 1499 rfl (by decide) (by decide +kernel) rfl
theorem flX12_68 : q_flok RX12 (68, 12, 22) := q_fl1 1501 rfl (by decide) (by decide +kernel) rfl
theorem flX12_71 : q_flok RX12 (71, 12, 23) := q_fl1 1503 rfl (by decide) (by decide +kernel) rfl
theorem flX12_74 : q_flok RX12 (74, 12, 24) := q_fl1 1505 rfl (by decide) (by decide +kernel) rfl
theorem flX12_77 : q_flok RX12 (77, 12, 25) := q_fl1 1507 rfl (by decide) (by decide +kernel) rfl
theorem flX12_80 : q_flok RX12 (80, 12, 26) := q_fl1 1509 rfl (by decide) (by decide +kernel) rfl
theorem flX12_83 : q_flok RX12 (83, 12, 27) := q_fl1 1511 rfl (by decide) (by decide +kernel) rfl
theorem flX12_86 : q_flok RX12 (86, 12, 28) := q_fl1 1513 rfl (by decide) (by decide +kernel) rfl
theorem flX12_ok : ∀ f ∈ flX12, q_flok RX12 f := List.forall_mem_cons.mpr ⟨flX12_9, List.forall_mem_cons.mpr ⟨flX12_15, List.forall_mem_cons.mpr ⟨flX12_19, List.forall_mem_cons.mpr ⟨flX12_22, List.forall_mem_cons.mpr ⟨flX12_89, List.forall_mem_cons.mpr ⟨flX12_25, List.forall_mem_cons.mpr ⟨flX12_28, List.forall_mem_cons.mpr ⟨flX12_31, List.forall_mem_cons.mpr ⟨flX12_34, List.forall_mem_cons.mpr ⟨flX12_37, List.forall_mem_cons.mpr ⟨flX12_40, List.forall_mem_cons.mpr ⟨flX12_43, List.forall_mem_cons.mpr ⟨flX12_46, List.forall_mem_cons.mpr ⟨flX12_49, List.forall_mem_cons.mpr ⟨flX12_52, List.forall_mem_cons.mpr ⟨flX12_55, List.forall_mem_cons.mpr ⟨flX12_58, List.forall_mem_cons.mpr ⟨flX12_61, List.forall_mem_cons.mpr ⟨flX12_64, List.forall_mem_cons.mpr ⟨flX12_68, List.forall_mem_cons.mpr ⟨flX12_71, List.forall_mem_cons.mpr ⟨flX12_74, List.forall_mem_cons.mpr ⟨flX12_77, List.forall_mem_cons.mpr ⟨flX12_80, List.forall_mem_cons.mpr ⟨flX12_83, List.forall_mem_cons.mpr ⟨flX12_86, fun _ h => nomatch h⟩⟩⟩⟩⟩⟩⟩⟩⟩⟩⟩⟩⟩⟩⟩⟩⟩⟩⟩⟩⟩⟩⟩⟩⟩⟩
def flX14 : List (Nat × Nat × Nat) := [(129, 13, 6), (135, 13, 7), (123, 14, 0), (126, 14, 1), (9, 14, 2), (362, 14, 3), (379, 14, 4), (215, 14, 5), (16, 14, 6), (20, 14, 7), (359, 14, 8), (136, 14, 9), (151, 14, 10), (158, 14, 11), (132, 14, 12), (172, 14, 13), (165, 14, 14), (243, 14, 15), (382, 14, 16), (24, 14, 17), (28, 14, 18), (31, 14, 19), (34, 14, 20), (37, 14, 21), (40, 14, 22), (43, 14, 23), (47, 14, 24), (50, 14, 25), (53, 14, 26), (56, 14, 27), (60, 14, 28), (385, 14, 29), (63, 14, 30), (66, 14, 31), (69, 14, 32), (72, 14, 33), (75, 14, 34), (388, 14, 35), (78, 14, 36), (81, 14, 37), (84, 14, 38), (87, 14, 39), (90, 14, 40), (93, 14, 41), (391, 14, 42), (96, 14, 43), (99, 14, 44), (102, 14, 45), (105, 14, 46), (108, 14, 47), (111, 14, 48), (394, 14, 49), (114, 14, 50), (117, 14, 51), (120, 14, 52), (249, 12, 0), (225, 12, 1), (227, 12, 2), (246, 12, 3), (252, 12, 4), (255, 12, 5), (294, 12, 6), (325, 12, 7), (258, 12, 8), (264, 12, 9), (273, 12, 10), (281, 12, 11), (283, 12, 12), (286, 12, 13), (291, 12, 14), (297, 12, 15), (307, 12, 16), (312, 12, 17), (317, 12, 18), (319, 12, 19), (322, 12, 20), (300, 12, 21), (328, 12, 22), (331, 12, 23), (336, 12, 24), (338, 12, 25), (350, 12, 26), (353, 12, 27), (356, 12, 28)]
theorem flX14_129 : q_flok RX14 (129, 13, 6) := q_fl2 (host := "BridgeStripModel") 1266 rfl (by decide) (by decide +kernel) rfl
theorem flX14_135 : q_flok RX14 (135, 13, 7) := q_fl2 (host := "BridgeStripModel") 1267 rfl (by decide) (by decide +kernel) rfl
theorem flX14_123 : q_flok RX14 (123, 14, 0) := q_fl1 1274 rfl (by decide) (by decide +kernel) rfl
theorem flX14_126 : q_flok RX14 (126, 14, 1) := q_fl1 1275 rfl (by decide) (by decide +kernel) rfl
theorem flX14_9 : q_flok RX14 (9, 14, 2) := q_fl1 1276 rfl (by decide) (by decide +kernel) rfl
theorem flX14_362 : q_flok RX14 (362, 14, 3) := q_fl1 1277 rfl (by decide) (by decide +kernel) rfl
theorem flX14_379 : q_flok RX14 (379, 14, 4) := q_fl1 1278 rfl (by decide) (by decide +kernel) rfl
theorem flX14_215 : q_flok RX14 (215, 14, 5) := q_fl1 1279 rfl (by decide) (by decide +kernel) rfl
theorem flX14_16 : q_flok RX14 (16, 14, 6) := q_fl1 1280 rfl (by decide) (by decide +kernel) rfl
theorem flX14_20 : q_flok RX14 (20, 14, 7) := q_fl1 1281 rfl (by decide) (by decide +kernel) rfl
theorem flX14_359 : q_flok RX14 (359, 14, 8) := q_fl1 1282 rfl (by decide) (by decide +kernel) rfl
theorem flX14_136 : q_flok RX14 (136, 14, 9) := q_fl1 1283 rfl (by decide) (by decide +kernel) rfl
theorem flX14_151 : q_flok RX14 (151, 14, 10) := q_fl1 1284 rfl (by decide) (by decide +kernel) rfl
theorem flX14_158 : q_flok RX14 (158, 14, 11) := q_fl1 1285 rfl (by decide) (by decide +kernel) rfl
theorem flX14_132 : q_flok RX14 (132, 14, 12) := q_fl1 1286 rfl (by decide) (by decide +kernel) rfl
theorem flX14_172 : q_flok RX14 (172, 14, 13) := q_fl1 1287 rfl (by decide) (by decide +kernel) rfl
theorem flX14_165 : q_flok RX14 (165, 14, 14) := q_fl1 1288 rfl (by decide) (by decide +kernel) rfl
theorem flX14_243 : q_flok RX14 (243, 14, 15) := q_fl1 1289 rfl (by decide) (by decide +kernel) rfl
theorem flX14_382 : q_flok RX14 (382, 14, 16) := q_fl1 1290 rfl (by decide) (by decide +kernel) rfl
theorem flX14_24 : q_flok RX14 (24, 14, 17) := q_fl1 1291 rfl (by decide) (by decide +kernel) rfl
theorem flX14_28 : q_flok RX14 (28, 14, 18) := q_fl1 1292 rfl (by decide) (by decide +kernel) rfl
theorem flX14_31 : q_flok RX14 (31, 14, 19) := q_fl1 1293 rfl (by decide) (by decide +kernel) rfl
theorem flX14_34 : q_flok RX14 (34, 14, 20) := q_fl1 1294 rfl (by decide) (by decide +kernel) rfl
theorem flX14_37 : q_flok RX14 (37, 14, 21) := q_fl1 1295 rfl (by decide) (by decide +kernel) rfl
theorem flX14_40 : q_flok RX14 (40, 14, 22) := q_fl1 1296 rfl (by decide) (by decide +kernel) rfl
theorem flX14_43 : q_flok RX14 (43, 14, 23) := q_fl1 1297 rfl (by decide) (by decide +kernel) rfl
theorem flX14_47 : q_flok RX14 (47, 14, 24) := q_fl1 1298 rfl (by decide) (by decide +kernel) rfl
theorem flX14_50 : q_flok RX14 (50, 14, 25) := q_fl1 1299 rfl (by decide) (by decide +kernel) rfl
theorem flX14_53 : q_flok RX14 (53, 14, 26) := q_fl1 1300 rfl (by decide) (by decide +kernel) rfl
theorem flX14_56 : q_flok RX14 (56, 14, 27) := q_fl1 1301 rfl (by decide) (by decide +kernel) rfl
theorem flX14_60 : q_flok RX14 (60, 14, 28) := q_fl1 1302 rfl (by decide) (by decide +kernel) rfl
theorem flX14_385 : q_flok RX14 (385, 14, 29) := q_fl1 1303 rfl (by decide) (by decide +kernel) rfl
theorem flX14_63 : q_flok RX14 (63, 14, 30) := q_fl1 1304 rfl (by decide) (by decide +kernel) rfl
theorem flX14_66 : q_flok RX14 (66, 14, 31) := q_fl1 1305 rfl (by decide) (by decide +kernel) rfl
theorem flX14_69 : q_flok RX14 (69, 14, 32) := q_fl1 1306 rfl (by decide) (by decide +kernel) rfl
theorem flX14_72 : q_flok RX14 (72, 14, 33) := q_fl1 1307 rfl (by decide) (by decide +kernel) rfl
theorem flX14_75 : q_flok RX14 (75, 14, 34) := q_fl1 1308 rfl (by decide) (by decide +kernel) rfl
theorem flX14_388 : q_flok RX14 (388, 14, 35) := q_fl1 1309 rfl (by decide) (by decide +kernel) rfl
theorem flX14_78 : q_flok RX14 (78, 14, 36) := q_fl1 1310 rfl (by decide) (by decide +kernel) rfl
theorem flX14_81 : q_flok RX14 (81, 14, 37) := q_fl1 1311 rfl (by decide) (by decide +kernel) rfl
theorem flX14_84 : q_flok RX14 (84, 14, 38) := q_fl1 1312 rfl (by decide) (by decide +kernel) rfl
theorem flX14_87 : q_flok RX14 (87, 14, 39) := q_fl1 1313 rfl (by decide) (by decide +kernel) rfl
theorem flX14_90 : q_flok RX14 (90, 14, 40) := q_fl1 1314 rfl (by decide) (by decide +kernel) rfl
theorem flX14_93 : q_flok RX14 (93, 14, 41) := q_fl1 1315 rfl (by decide) (by decide +kernel) rfl
theorem flX14_391 : q_flok RX14 (391, 14, 42) := q_fl1 1316 rfl (by decide) (by decide +kernel) rfl
theorem flX14_96 : q_flok RX14 (96, 14, 43) := q_fl1 1317 rfl (by decide) (by decide +kernel) rfl
theorem flX14_99 : q_flok RX14 (99, 14, 44) := q_fl1 1318 rfl (by decide) (by decide +kernel) rfl
theorem flX14_102 : q_flok RX14 (102, 14, 45) := q_fl1 1319 rfl (by decide) (by decide +kernel) rfl
theorem flX14_105 : q_flok RX14 (105, 14, 46) := q_fl1 1320 rfl (by decide) (by decide +kernel) rfl
theorem flX14_108 : q_flok RX14 (108, 14, 47) := q_fl1 1321 rfl (by decide) (by decide +kernel) rfl
theorem flX14_111 : q_flok RX14 (111, 14, 48) := q_fl1 1322 rfl (by decide) (by decide +kernel) rfl
theorem flX14_394 : q_flok RX14 (394, 14, 49) := q_fl1 1323 rfl (by decide) (by decide +kernel) rfl
theorem flX14_114 : q_flok RX14 (114, 14, 50) := q_fl1 1324 rfl (by decide) (by decide +kernel) rfl
theorem flX14_117 : q_flok RX14 (117, 14, 51) := q_fl1 1325 rfl (by decide) (by decide +kernel) rfl
theorem flX14_120 : q_flok RX14 (120, 14, 52) := q_fl1 1326 rfl (by decide) (by decide +kernel) rfl
theorem flX14_249 : q_flok RX14 (249, 12, 0) := q_fl3 (host := "BridgeStripModel") 1461 rfl (by decide) (by decide +kernel) rfl (by decide +kernel)
theorem flX14_225 : q_flok RX14 (225, 12, 1) := q_fl3 (host := "BridgeStripModel") 1463 rfl (by decide) (by decide +kernel) rfl (by decide +kernel)
theorem flX14_227 : q_flok RX14 (227, 12, 2) := q_fl3 (host := "BridgeStripModel") 1465 rfl (by decide) (by decide +kernel) rfl (by decide +kernel)
theorem flX14_246 : q_flok RX14 (246, 12, 3) := q_fl3 (host := "BridgeStripModel") 1467 rfl (by decide) (by decide +kernel) rfl (by decide +kernel)
theorem flX14_252 : q_flok RX14 (252, 12, 4) := q_fl2 (host := "BridgeStripModel") 1469 rfl (by decide) (by decide +kernel) rfl
theorem flX14_255 : q_flok RX14 (255, 12, 5) := q_fl2 (host := "BridgeStripModel") 1470 rfl (by decide) (by decide +kernel) rfl
theorem flX14_294 : q_flok RX14 (294, 12, 6) := q_fl2 (host := "BridgeStripModel") 1471 rfl (by decide) (by decide +kernel) rfl
theorem flX14_325 : q_flok RX14 (325, 12, 7) := q_fl2 (host := "BridgeStripModel") 1472 rfl (by decide) (by decide +kernel) rfl
theorem flX14_258 : q_flok RX14 (258, 12, 8) := q_fl3 (host := "BridgeStripModel") 1474 rfl (by decide) (by decide +kernel) rfl (by decide +kernel)
theorem flX14_264 : q_flok RX14 (264, 12, 9) := q_fl3 (host := "BridgeStripModel") 1476 rfl (by decide) (by decide +kernel) rfl (by decide +kernel)
theorem flX14_273 : q_flok RX14 (273, 12, 10) := q_fl3 (host := "BridgeStripModel") 1478 rfl (by decide) (by decide +kernel) rfl (by decide +kernel)
theorem flX14_281 : q_flok RX14 (281, 12, 11) := q_fl3 (host := "BridgeStripModel") 1480 rfl (by decide) (by decide +kernel) rfl (by decide +kernel)
theorem flX14_283 : q_flok RX14 (283, 12, 12) := q_fl3 (host := "BridgeStripModel") 1482 rfl (by decide) (by decide +kernel) rfl (by decide +kernel)
theorem flX14_286 : q_flok RX14 (286, 12, 13) := q_fl3 (host := "BridgeStripModel") 1484 rfl (by decide) (by decide +kernel) rfl (by decide +kernel)
theorem flX14_291 : q_flok RX14 (291, 12, 14) := q_fl3 (host := "BridgeStripModel") 1486 rfl (by decide) (by decide +kernel) rfl (by decide +kernel)
theorem flX14_297 : q_flok RX14 (297, 12, 15) := q_fl3 (host := "BridgeStripModel") 1488 rfl (by decide) (by decide +kernel) rfl (by decide +kernel)
theorem flX14_307 : q_flok RX14 (307, 12, 16) := q_fl3 (host := "BridgeStripModel") 1490 rfl (by decide) (by decide +kernel) rfl (by decide +kernel)
theorem flX14_312 : q_flok RX14 (312, 12, 17) := q_fl3 (host := "BridgeStripModel") 1492 rfl (by decide) (by decide +kernel) rfl (by decide +kernel)
theorem flX14_317 : q_flok RX14 (317, 12, 18) := q_fl3 (host := "BridgeStripModel") 1494 rfl (by decide) (by decide +kernel) rfl (by decide +kernel)
theorem flX14_319 : q_flok RX14 (319, 12, 19) := q_fl3 (host := "BridgeStripModel") 1496 rfl (by decide) (by decide +kernel) rfl (by decide +kernel)
theorem flX14_322 : q_flok RX14 (322, 12, 20) := q_fl3 (host := "BridgeStripModel") 1498 rfl (by decide) (by decide +kernel) rfl (by decide +kernel)
theorem flX14_300 : q_flok RX14 (300, 12, 21) := q_fl3 (host := "BridgeStripModel") 1500 rfl (by decide) (by decide +kernel) rfl (by decide +kernel)
theorem flX14_328 : q_flok RX14 (328, 12, 22) := q_fl3 (host := "BridgeStripModel") 1502 rfl (by decide) (by decide +kernel) rfl (by decide +kernel)
theorem flX14_331 : q_flok RX14 (331, 12, 23) := q_fl3 (host := "BridgeStripModel") 1504 rfl (by decide) (by decide +kernel) rfl (by decide +kernel)
theorem flX14_336 : q_flok RX14 (336, 12, 24) := q_fl3 (host := "BridgeStripModel") 1506 rfl (by decide) (by decide +kernel) rfl (by decide +kernel)
theorem flX14_338 : q_flok RX14 (338, 12, 25) := q_fl3 (host := "BridgeStripModel") 1508 rfl (by decide) (by decide +kernel) rfl (by decide +kernel)
theorem flX14_350 : q_flok RX14 (350, 12, 26) := q_fl3 (host := "BridgeStripModel") 1510 rfl (by decide) (by decide +kernel) rfl (by decide +kernel)
theorem flX14_353 : q_flok RX14 (353, 12, 27) := q_fl3 (host := "BridgeStripModel") 1512 rfl (by decide) (by decide +kernel) rfl (by decide +kernel)
theorem flX14_356 : q_flok RX14 (356, 12, 28) := q_fl3 (host := "BridgeStripModel") 1514 rfl (by decide) (by decide +kernel) rfl (by decide +kernel)
theorem flX14_ok : ∀ f ∈ flX14, q_flok RX14 f := List.forall_mem_cons.mpr ⟨flX14_129, List.forall_mem_cons.mpr ⟨flX14_135, List.forall_mem_cons.mpr ⟨flX14_123, List.forall_mem_cons.mpr ⟨flX14_126, List.forall_mem_cons.mpr ⟨flX14_9, List.forall_mem_cons.mpr ⟨flX14_362, List.forall_mem_cons.mpr ⟨flX14_379, List.forall_mem_cons.mpr ⟨flX14_215, List.forall_mem_cons.mpr ⟨flX14_16, List.forall_mem_cons.mpr ⟨flX14_20, List.forall_mem_cons.mpr ⟨flX14_359, List.forall_mem_cons.mpr ⟨flX14_136, List.forall_mem_cons.mpr ⟨flX14_151, List.forall_mem_cons.mpr ⟨flX14_158, List.forall_mem_cons.mpr ⟨flX14_132, List.forall_mem_cons.mpr ⟨flX14_172, List.forall_mem_cons.mpr ⟨flX14_165, List.forall_mem_cons.mpr ⟨flX14_243, List.forall_mem_cons.mpr ⟨flX14_382, List.forall_mem_cons.mpr ⟨flX14_24, List.forall_mem_cons.mpr ⟨flX14_28, List.forall_mem_cons.mpr ⟨flX14_31, List.forall_mem_cons.mpr ⟨flX14_34, List.forall_mem_cons.mpr ⟨flX14_37, List.forall_mem_cons.mpr ⟨flX14_40, List.forall_mem_cons.mpr ⟨flX14_43, List.forall_mem_cons.mpr ⟨flX14_47, List.forall_mem_cons.mpr ⟨flX14_50, List.forall_mem_cons.mpr ⟨flX14_53, List.forall_mem_cons.mpr ⟨flX14_56, List.forall_mem_cons.mpr ⟨flX14_60, List.forall_mem_cons.mpr ⟨flX14_385, List.forall_mem_cons.mpr ⟨flX14_63, List.forall_mem_cons.mpr ⟨flX14_66, List.forall_mem_cons.mpr ⟨flX14_69, List.forall_mem_cons.mpr ⟨flX14_72, List.forall_mem_cons.mpr ⟨flX14_75, List.forall_mem_cons.mpr ⟨flX14_388, List.forall_mem_cons.mpr ⟨flX14_78, List.forall_mem_cons.mpr ⟨flX14_81, List.forall_mem_cons.mpr ⟨flX14_84, List.forall_mem_cons.mpr ⟨flX14_87, List.forall_mem_cons.mpr ⟨flX14_90, List.forall_mem_cons.mpr ⟨flX14_93, List.forall_mem_cons.mpr ⟨flX14_391, List.forall_mem_cons.mpr ⟨flX14_96, List.forall_mem_cons.mpr ⟨flX14_99, List.forall_mem_cons.mpr ⟨flX14_102, List.forall_mem_cons.mpr ⟨flX14_105, List.forall_mem_cons.mpr ⟨flX14_108, List.forall_mem_cons.mpr ⟨flX14_111, List.forall_mem_cons.mpr ⟨flX14_394, List.forall_mem_cons.mpr ⟨flX14_114, List.forall_mem_cons.mpr ⟨flX14_117, List.forall_mem_cons.mpr ⟨flX14_120, List.forall_mem_cons.mpr ⟨flX14_249, List.forall_mem_cons.mpr ⟨flX14_225, List.forall_mem_cons.mpr ⟨flX14_227, List.forall_mem_cons.mpr ⟨flX14_246, List.forall_mem_cons.mpr ⟨flX14_252, List.forall_mem_cons.mpr ⟨flX14_255, List.forall_mem_cons.mpr ⟨flX14_294, List.forall_mem_cons.mpr ⟨flX14_325, List.forall_mem_cons.mpr ⟨flX14_258, List.forall_mem_cons.mpr ⟨flX14_264, List.forall_mem_cons.mpr ⟨flX14_273, List.forall_mem_cons.mpr ⟨flX14_281, List.forall_mem_cons.mpr ⟨flX14_283, List.forall_mem_cons.mpr ⟨flX14_286, List.forall_mem_cons.mpr ⟨flX14_291, List.forall_mem_cons.mpr ⟨flX14_297, List.forall_mem_cons.mpr ⟨flX14_307, List.forall_mem_cons.mpr ⟨flX14_312, List.forall_mem_cons.mpr ⟨flX14_317, List.forall_mem_cons.mpr ⟨flX14_319, List.forall_mem_cons.mpr ⟨flX14_322, List.forall_mem_cons.mpr ⟨flX14_300, List.forall_mem_cons.mpr ⟨flX14_328, List.forall_mem_cons.mpr ⟨flX14_331, List.forall_mem_cons.mpr ⟨flX14_336, List.forall_mem_cons.mpr ⟨flX14_338, List.forall_mem_cons.mpr ⟨flX14_350, List.forall_mem_cons.mpr ⟨flX14_353, List.forall_mem_cons.mpr ⟨flX14_356, fun _ h => nomatch h⟩⟩⟩⟩⟩⟩⟩⟩⟩⟩⟩⟩⟩⟩⟩⟩⟩⟩⟩⟩⟩⟩⟩⟩⟩⟩⟩⟩⟩⟩⟩⟩⟩⟩⟩⟩⟩⟩⟩⟩⟩⟩⟩⟩⟩⟩⟩⟩⟩⟩⟩⟩⟩⟩⟩⟩⟩⟩⟩⟩⟩⟩⟩⟩⟩⟩⟩⟩⟩⟩⟩⟩⟩⟩⟩⟩⟩⟩⟩⟩⟩⟩⟩⟩
def flX2 : List (Nat × Nat × Nat) := [(11, 2, 0), (15, 2, 1), (18, 2, 2), (21, 2, 3), (24, 2, 4), (27, 2, 5), (30, 2, 6), (33, 2, 7), (37, 2, 8), (69, 6, 0)]
theorem flX2_11 : q_flok RX2 (11, 2, 0) := q_fl1 128 rfl (by decide) (by decide +kernel) rfl
theorem flX2_15 : q_flok RX2 (15, 2, 1) := q_fl1 129 rfl (by decide) (by decide +kernel) rfl
theorem flX2_18 : q_flok RX2 (18, 2, 2) := q_fl1 130 rfl (by decide) (by decide +kernel) rfl
theorem flX2_21 : q_flok RX2 (21, 2, 3) := q_fl1 131 rfl (by decide) (by decide +kernel) rfl
theorem flX2_24 : q_flok RX2 (24, 2, 4) := q_fl1 132 rfl (by decide) (by decide +kernel) rfl
theorem flX2_27 : q_flok RX2 (27, 2, 5) := q_fl1 133 rfl (by decide) (by decide +kernel) rfl
theorem flX2_30 : q_flok RX2 (30, 2, 6) := q_fl1 134 rfl (by decide) (by decide +kernel) rfl
theorem flX2_33 : q_flok RX2 (33, 2, 7) := q_fl1 135 rfl (by decide) (by decide +kernel) rfl
theorem flX2_37 : q_flok RX2 (37, 2, 8) := q_fl1 136 rfl (by decide) (by decide +kernel) rfl
theorem flX2_69 : q_flok RX2 (69, 6, 0) := q_fl1 319 rfl (by decide) (by decide +kernel) rfl
theorem flX2_ok : ∀ f ∈ flX2, q_flok RX2 f := List.forall_mem_cons.mpr ⟨flX2_11, List.forall_mem_cons.mpr ⟨flX2_15, List.forall_mem_cons.mpr ⟨flX2_18, List.forall_mem_cons.mpr ⟨flX2_21, List.forall_mem_cons.mpr ⟨flX2_24, List.forall_mem_cons.mpr ⟨flX2_27, List.forall_mem_cons.mpr ⟨flX2_30, List.forall_mem_cons.mpr ⟨flX2_33, List.forall_mem_cons.mpr ⟨flX2_37, List.forall_mem_cons.mpr ⟨flX2_69, fun _ h => nomatch h⟩⟩⟩⟩⟩⟩⟩⟩⟩⟩
def flX3 : List (Nat × Nat × Nat) := [(11, 3, 0), (15, 3, 1), (18, 3, 2), (21, 3, 3), (25, 3, 4), (28, 3, 5), (31, 3, 6), (34, 3, 7)]
theorem flX3_11 : q_flok RX3 (11, 3, 0) := q_fl1 94 rfl (by decide) (by decide +kernel) rfl
theorem flX3_15 : q_flok RX3 (15, 3, 1) := q_fl1 95 rfl (by decide) (by decide +kernel) rfl
theorem flX3_18 : q_flok RX3 (18, 3, 2) := q_fl1 96 rfl (by decide) (by decide +kernel) rfl
theorem flX3_21 : q_flok RX3 (21, 3, 3) := q_fl1 97 rfl (by decide) (by decide +kernel) rfl
theorem flX3_25 : q_flok RX3 (25, 3, 4) := q_fl1 98 rfl (by decide) (by decide +kernel) rfl
theorem flX3_28 : q_flok RX3 (28, 3, 5) := q_fl1 99 rfl (by decide) (by decide +kernel) rfl
theorem flX3_31 : q_flok RX3 (31, 3, 6) := q_fl1 100 rfl (by decide) (by decide +kernel) rfl
theorem flX3_34 : q_flok RX3 (34, 3, 7) := q_fl1 101 rfl (by decide) (by decide +kernel) rfl
theorem flX3_ok : ∀ f ∈ flX3, q_flok RX3 f := List.forall_mem_cons.mpr ⟨flX3_11, List.forall_mem_cons.mpr ⟨flX3_15, List.forall_mem_cons.mpr ⟨flX3_18, List.forall_mem_cons.mpr ⟨flX3_21, List.forall_mem_cons.mpr ⟨flX3_25, List.forall_mem_cons.mpr ⟨flX3_28, List.forall_mem_cons.mpr ⟨flX3_31, List.forall_mem_cons.mpr ⟨flX3_34, fun _ h => nomatch h⟩⟩⟩⟩⟩⟩⟩⟩
def flX4 : List (Nat × Nat × Nat) := [(9, 4, 0), (13, 4, 1), (18, 4, 2), (22, 4, 3)]
theorem flX4_9 : q_flok RX4 (9, 4, 0) := q_fl1 483 rfl (by decide) (by decide +kernel) rfl
theorem flX4_13 : q_flok RX4 (13, 4, 1) := q_fl1 485 rfl (by decide) (by decide +kernel) rfl
theorem flX4_18 : q_flok RX4 (18, 4, 2) := q_fl1 486 rfl (by decide) (by decide +kernel) rfl
theorem flX4_22 : q_flok RX4 (22, 4, 3) := q_fl1 488 rfl (by decide) (by decide +kernel) rfl
theorem flX4_ok : ∀ f ∈ flX4, q_flok RX4 f := List.forall_mem_cons.mpr ⟨flX4_9, List.forall_mem_cons.mpr ⟨flX4_13, List.forall_mem_cons.mpr ⟨flX4_18, List.forall_mem_cons.mpr ⟨flX4_22, fun _ h => nomatch h⟩⟩⟩⟩
def flX5 : List (Nat × Nat × Nat) := [(62, 8, 4), (65, 8, 5), (72, 8, 6), (61, 8, 7), (55, 0, 5), (68, 0, 6), (11, 5, 0), (15, 5, 1), (18, 5, 2), (23, 5, 3), (26, 5, 4), (34, 5, 5), (30, 5, 6)]
theorem flX5_62 : q_flok RX5 (62, 8, 4) := q_fl1 56 rfl (by decide) (by decide +kernel) rfl
theorem flX5_65 : q_flok RX5 (65, 8, 5) := q_fl1 59 rfl (by decide) (by decide +kernel) rfl
theorem flX5_72 : q_flok RX5 (72, 8, 6) := q_fl1 62 rfl (by decide) (by decide +kernel) rfl
theorem flX5_61 : q_flok RX5 (61, 8, 7) := q_fl1 66 rfl (by decide) (by decide +kernel) rfl
theorem flX5_55 : q_flok RX5 (55, 0, 5) := q_fl1 171 rfl (by decide) (by decide +kernel) rfl
theorem flX5_68 : q_flok RX5 (68, 0, 6) := q_fl1 178 rfl (by decide) (by decide +kernel) rfl
theorem flX5_11 : q_flok RX5 (11, 5, 0) := q_fl1 384 rfl (by decide) (by decide +kernel) rfl
theorem flX5_15 : q_flok RX5 (15, 5, 1) := q_fl1 385 rfl (by decide) (by decide +kernel) rfl
theorem flX5_18 : q_flok RX5 (18, 5, 2) := q_fl1 386 rfl (by decide) (by decide +kernel) rfl
theorem flX5_23 : q_flok RX5 (23, 5, 3) := q_fl1 387 rfl (by decide) (by decide +kernel) rfl
theorem flX5_26 : q_flok RX5 (26, 5, 4) := q_fl1 388 rfl (by decide) (by decide +kernel) rfl
theorem flX5_34 : q_flok RX5 (34, 5, 5) := q_fl1 389 rfl (by decide) (by decide +kernel) rfl
theorem flX5_30 : q_flok RX5 (30, 5, 6) := q_fl1 391 rfl (by decide) (by decide +kernel) rfl
theorem flX5_ok : ∀ f ∈ flX5, q_flok RX5 f := List.forall_mem_cons.mpr ⟨flX5_62, List.forall_mem_cons.mpr ⟨flX5_65, List.forall_mem_cons.mpr ⟨flX5_72, List.forall_mem_cons.mpr ⟨flX5_61, List.forall_mem_cons.mpr ⟨flX5_55, List.forall_mem_cons.mpr ⟨flX5_68, List.forall_mem_cons.mpr ⟨flX5_11, List.forall_mem_cons.mpr ⟨flX5_15, List.forall_mem_cons.mpr ⟨flX5_18, List.forall_mem_cons.mpr ⟨flX5_23, List.forall_mem_cons.mpr ⟨flX5_26, List.forall_mem_cons.mpr ⟨flX5_34, List.forall_mem_cons.mpr ⟨flX5_30, fun _ h => nomatch h⟩⟩⟩⟩⟩⟩⟩⟩⟩⟩⟩⟩⟩
def flX6 : List (Nat × Nat × Nat) := [(51, 0, 0), (56, 0, 6), (11, 6, 0), (15, 6, 1), (18, 6, 2), (21, 6, 3), (24, 6, 4), (27, 6, 5), (30, 6, 6)]
theorem flX6_51 : q_flok RX6 (51, 0, 0) := q_fl1 161 rfl (by decide) (by decide +kernel) rfl
theorem flX6_56 : q_flok RX6 (56, 0, 6) := q_fl1 180 rfl (by decide) (by decide +kernel) rfl
theorem flX6_11 : q_flok RX6 (11, 6, 0) := q_fl1 317 rfl (by decide) (by decide +kernel) rfl
theorem flX6_15 : q_flok RX6 (15, 6, 1) := q_fl1 321 rfl (by decide) (by decide +kernel) rfl
theorem flX6_18 : q_flok RX6 (18, 6, 2) := q_fl1 323 rfl (by decide) (by decide +kernel) rfl
theorem flX6_21 : q_flok RX6 (21, 6, 3) := q_fl1 325 rfl (by decide) (by decide +kernel) rfl
theorem flX6_24 : q_flok RX6 (24, 6, 4) := q_fl1 327 rfl (by decide) (by decide +kernel) rfl
theorem flX6_27 : q_flok RX6 (27, 6, 5) := q_fl1 329 rfl (by decide) (by decide +kernel) rfl
theorem flX6_30 : q_flok RX6 (30, 6, 6) := q_fl1 331 rfl (by decide) (by decide +kernel) rfl
theorem flX6_ok : ∀ f ∈ flX6, q_flok RX6 f := List.forall_mem_cons.mpr ⟨flX6_51, List.forall_mem_cons.mpr ⟨flX6_56, List.forall_mem_cons.mpr ⟨flX6_11, List.forall_mem_cons.mpr ⟨flX6_15, List.forall_mem_cons.mpr ⟨flX6_18, List.forall_mem_cons.mpr ⟨flX6_21, List.forall_mem_cons.mpr ⟨flX6_24, List.forall_mem_cons.mpr ⟨flX6_27, List.forall_mem_cons.mpr ⟨flX6_30, fun _ h => nomatch h⟩⟩⟩⟩⟩⟩⟩⟩⟩
def flX7 : List (Nat × Nat × Nat) := [(213, 0, 2), (217, 0, 3), (123, 0, 5), (168, 0, 6), (186, 0, 7), (64, 7, 0), (67, 7, 1), (35, 7, 2), (39, 7, 3), (53, 7, 4), (43, 7, 5), (61, 7, 6), (57, 7, 7), (80, 7, 8), (135, 7, 9), (70, 7, 10), (111, 7, 11), (219, 7, 12)]
theorem flX7_213 : q_flok RX7 (213, 0, 2) := q_fl1 165 rfl (by decide) (by decide +kernel) rfl
theorem flX7_217 : q_flok RX7 (217, 0, 3) := q_fl1 167 rfl (by decide) (by decide +kernel) rfl
theorem flX7_123 : q_flok RX7 (123, 0, 5) := q_fl1 172 rfl (by decide) (by decide +kernel) rfl
theorem flX7_168 : q_flok RX7 (168, 0, 6) := q_fl1 179 rfl (by decide) (by decide +kernel) rfl
theorem flX7_186 : q_flok RX7 (186, 0, 7) := q_fl1 182 rfl (by decide) (by decide +kernel) rfl
theorem flX7_64 : q_flok RX7 (64, 7, 0) := q_fl1 269 rfl (by decide) (by decide +kernel) rfl
theorem flX7_67 : q_flok RX7 (67, 7, 1) := q_fl1 271 rfl (by decide) (by decide +kernel) rfl
theorem flX7_35 : q_flok RX7 (35, 7, 2) := q_fl1 273 rfl (by decide) (by decide +kernel) rfl
theorem flX7_39 : q_flok RX7 (39, 7, 3) := q_fl1 274 rfl (by decide) (by decide +kernel) rfl
theorem flX7_53 : q_flok RX7 (53, 7, 4) := q_fl1 275 rfl (by decide) (by decide +kernel) rfl
theorem flX7_43 : q_flok RX7 (43, 7, 5) := q_fl1 276 rfl (by decide) (by decide +kernel) rfl
theorem flX7_61 : q_flok RX7 (61, 7, 6) := q_fl1 277 rfl (by decide) (by decide +kernel) rfl
theorem flX7_57 : q_flok RX7 (57, 7, 7) := q_fl1 278 rfl (by decide) (by decide +kernel) rfl
theorem flX7_80 : q_flok RX7 (80, 7, 8) := q_fl1 279 rfl (by decide) (by decide +kernel) rfl
theorem flX7_135 : q_flok RX7 (135, 7, 9) := q_fl1 280 rfl (by decide) (by decide +kernel) rfl
theorem flX7_70 : q_flok RX7 (70, 7, 10) := q_fl1 281 rfl (by decide) (by decide +kernel) rfl
theorem flX7_111 : q_flok RX7 (111, 7, 11) := q_fl1 282 rfl (by decide) (by decide +kernel) rfl
theorem flX7_219 : q_flok RX7 (219, 7, 12) := q_fl1 283 rfl (by decide) (by decide +kernel) rfl
theorem flX7_ok : ∀ f ∈ flX7, q_flok RX7 f := List.forall_mem_cons.mpr ⟨flX7_213, List.forall_mem_cons.mpr ⟨flX7_217, List.forall_mem_cons.mpr ⟨flX7_123, List.forall_mem_cons.mpr ⟨flX7_168, List.forall_mem_cons.mpr ⟨flX7_186, List.forall_mem_cons.mpr ⟨flX7_64, List.forall_mem_cons.mpr ⟨flX7_67, List.forall_mem_cons.mpr ⟨flX7_35, List.forall_mem_cons.mpr ⟨flX7_39, List.forall_mem_cons.mpr ⟨flX7_53, List.forall_mem_cons.mpr ⟨flX7_43, List.forall_mem_cons.mpr ⟨flX7_61, List.forall_mem_cons.mpr ⟨flX7_57, List.forall_mem_cons.mpr ⟨flX7_80, List.forall_mem_cons.mpr ⟨flX7_135, List.forall_mem_cons.mpr ⟨flX7_70, List.forall_mem_cons.mpr ⟨flX7_111, List.forall_mem_cons.mpr ⟨flX7_219, fun _ h => nomatch h⟩⟩⟩⟩⟩⟩⟩⟩⟩⟩⟩⟩⟩⟩⟩⟩⟩⟩
def flX8 : List (Nat × Nat × Nat) := [(11, 8, 0), (15, 8, 1), (18, 8, 2), (21, 8, 3), (24, 8, 4), (27, 8, 5), (30, 8, 6), (33, 8, 7)]
theorem flX8_11 : q_flok RX8 (11, 8, 0) := q_fl1 46 rfl (by decide) (by decide +kernel) rfl
theorem flX8_15 : q_flok RX8 (15, 8, 1) := q_fl1 48 rfl (by decide) (by decide +kernel) rfl
theorem flX8_18 : q_flok RX8 (18, 8, 2) := q_fl1 50 rfl (by decide) (by decide +kernel) rfl
theorem flX8_21 : q_flok RX8 (21, 8, 3) := q_fl1 52 rfl (by decide) (by decide +kernel) rfl
theorem flX8_24 : q_flok RX8 (24, 8, 4) := q_fl1 54 rfl (by decide) (by decide +kernel) rfl
theorem flX8_27 : q_flok RX8 (27, 8, 5) := q_fl1 57 rfl (by decide) (by decide +kernel) rfl
theorem flX8_30 : q_flok RX8 (30, 8, 6) := q_fl1 60 rfl (by decide) (by decide +kernel) rfl
theorem flX8_33 : q_flok RX8 (33, 8, 7) := q_fl1 63 rfl (by decide) (by decide +kernel) rfl
theorem flX8_ok : ∀ f ∈ flX8, q_flok RX8 f := List.forall_mem_cons.mpr ⟨flX8_11, List.forall_mem_cons.mpr ⟨flX8_15, List.forall_mem_cons.mpr ⟨flX8_18, List.forall_mem_cons.mpr ⟨flX8_21, List.forall_mem_cons.mpr ⟨flX8_24, List.forall_mem_cons.mpr ⟨flX8_27, List.forall_mem_cons.mpr ⟨flX8_30, List.forall_mem_cons.mpr ⟨flX8_33, fun _ h => nomatch h⟩⟩⟩⟩⟩⟩⟩⟩
def flX9 : List (Nat × Nat × Nat) := [(11, 9, 0), (15, 9, 1), (18, 9, 2), (21, 9, 3), (24, 9, 4), (27, 9, 5), (42, 9, 6), (34, 9, 7), (30, 9, 8)]
theorem flX9_11 : q_flok RX9 (11, 9, 0) := q_fl1 446 rfl (by decide) (by decide +kernel) rfl
theorem flX9_15 : q_flok RX9 (15, 9, 1) := q_fl1 447 rfl (by decide) (by decide +kernel) rfl
theorem flX9_18 : q_flok RX9 (18, 9, 2) := q_fl1 448 rfl (by decide) (by decide +kernel) rfl
theorem flX9_21 : q_flok RX9 (21, 9, 3) := q_fl1 449 rfl (by decide) (by decide +kernel) rfl
theorem flX9_24 : q_flok RX9 (24, 9, 4) := q_fl1 450 rfl (by decide) (by decide +kernel) rfl
theorem flX9_27 : q_flok RX9 (27, 9, 5) := q_fl1 451 rfl (by decide) (by decide +kernel) rfl
theorem flX9_42 : q_flok RX9 (42, 9, 6) := q_fl1 453 rfl (by decide) (by decide +kernel) rfl
theorem flX9_34 : q_flok RX9 (34, 9, 7) := q_fl1 455 rfl (by decide) (by decide +kernel) rfl
theorem flX9_30 : q_flok RX9 (30, 9, 8) := q_fl1 457 rfl (by decide) (by decide +kernel) rfl
theorem flX9_ok : ∀ f ∈ flX9, q_flok RX9 f := List.forall_mem_cons.mpr ⟨flX9_11, List.forall_mem_cons.mpr ⟨flX9_15, List.forall_mem_cons.mpr ⟨flX9_18, List.forall_mem_cons.mpr ⟨flX9_21, List.forall_mem_cons.mpr ⟨flX9_24, List.forall_mem_cons.mpr ⟨flX9_27, List.forall_mem_cons.mpr ⟨flX9_42, List.forall_mem_cons.mpr ⟨flX9_34, List.forall_mem_cons.mpr ⟨flX9_30, fun _ h => nomatch h⟩⟩⟩⟩⟩⟩⟩⟩⟩
