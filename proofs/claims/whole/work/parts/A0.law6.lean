theorem dcL_235 : decode cL_law 235 = .ok (.invokevirtual 19, 3) := by decide +kernel
theorem dcL_269 : decode cL_law 269 = .ok (.invokevirtual 23, 3) := by decide +kernel
theorem dcL_284 : decode cL_law 284 = .ok (.invokevirtual 24, 3) := by decide +kernel
theorem dcL_294 : decode cL_law 294 = .ok (.invokevirtual 28, 3) := by decide +kernel
theorem dcL_309 : decode cL_law 309 = .ok (.invokevirtual 29, 3) := by decide +kernel
theorem dcL_319 : decode cL_law 319 = .ok (.invokevirtual 32, 3) := by decide +kernel
theorem dcL_328 : decode cL_law 328 = .ok (.invokevirtual 33, 3) := by decide +kernel
theorem dcL_332 : decode cL_law 332 = .ok (.invokevirtual 37, 3) := by decide +kernel
theorem dcL_341 : decode cL_law 341 = .ok (.invokevirtual 38, 3) := by decide +kernel
theorem dcL_345 : decode cL_law 345 = .ok (.invokevirtual 41, 3) := by decide +kernel
theorem dcL_360 : decode cL_law 360 = .ok (.invokevirtual 42, 3) := by decide +kernel
theorem dcL_370 : decode cL_law 370 = .ok (.invokevirtual 45, 3) := by decide +kernel
theorem dcL_409 : decode cL_law 409 = .ok (.invokevirtual 46, 3) := by decide +kernel
theorem dcL_443 : decode cL_law 443 = .ok (.invokevirtual 49, 3) := by decide +kernel
theorem dcL_482 : decode cL_law 482 = .ok (.invokevirtual 50, 3) := by decide +kernel
theorem dcL_516 : decode cL_law 516 = .ok (.invokevirtual 53, 3) := by decide +kernel
theorem dcL_531 : decode cL_law 531 = .ok (.invokevirtual 54, 3) := by decide +kernel
theorem dcL_541 : decode cL_law 541 = .ok (.invokevirtual 57, 3) := by decide +kernel
theorem dcL_580 : decode cL_law 580 = .ok (.invokevirtual 58, 3) := by decide +kernel
theorem dcL_614 : decode cL_law 614 = .ok (.invokevirtual 61, 3) := by decide +kernel
theorem dcL_641 : decode cL_law 641 = .ok (.invokevirtual 62, 3) := by decide +kernel
theorem dcL_663 : decode cL_law 663 = .ok (.invokevirtual 66, 3) := by decide +kernel
theorem dcL_684 : decode cL_law 684 = .ok (.invokevirtual 67, 3) := by decide +kernel
theorem dcL_700 : decode cL_law 700 = .ok (.invokevirtual 71, 3) := by decide +kernel
theorem dcL_727 : decode cL_law 727 = .ok (.invokevirtual 72, 3) := by decide +kernel
theorem dcL_749 : decode cL_law 749 = .ok (.invokevirtual 75, 3) := by decide +kernel
theorem dcL_770 : decode cL_law 770 = .ok (.invokevirtual 76, 3) := by decide +kernel
theorem dcL_786 : decode cL_law 786 = .ok (.invokevirtual 80, 3) := by decide +kernel
theorem dcL_813 : decode cL_law 813 = .ok (.invokevirtual 81, 3) := by decide +kernel
theorem dcL_835 : decode cL_law 835 = .ok (.invokevirtual 84, 3) := by decide +kernel
theorem dcL_862 : decode cL_law 862 = .ok (.invokevirtual 85, 3) := by decide +kernel
theorem dcL_884 : decode cL_law 884 = .ok (.invokevirtual 88, 3) := by decide +kernel
theorem dcL_911 : decode cL_law 911 = .ok (.invokevirtual 89, 3) := by decide +kernel
theorem dcL_933 : decode cL_law 933 = .ok (.invokevirtual 92, 3) := by decide +kernel
theorem dcL_954 : decode cL_law 954 = .ok (.invokevirtual 93, 3) := by decide +kernel
theorem dcL_970 : decode cL_law 970 = .ok (.invokevirtual 96, 3) := by decide +kernel
theorem dcL_991 : decode cL_law 991 = .ok (.invokevirtual 97, 3) := by decide +kernel
theorem dcL_1007 : decode cL_law 1007 = .ok (.invokevirtual 100, 3) := by decide +kernel
theorem dcL_1034 : decode cL_law 1034 = .ok (.invokevirtual 101, 3) := by decide +kernel
theorem dcL_1056 : decode cL_law 1056 = .ok (.invokevirtual 104, 3) := by decide +kernel
theorem dcL_1083 : decode cL_law 1083 = .ok (.invokevirtual 105, 3) := by decide +kernel
theorem dcL_1105 : decode cL_law 1105 = .ok (.invokevirtual 108, 3) := by decide +kernel
theorem dcL_1114 : decode cL_law 1114 = .ok (.invokevirtual 109, 3) := by decide +kernel
theorem dcL_1118 : decode cL_law 1118 = .ok (.invokevirtual 112, 3) := by decide +kernel
theorem dcL_1133 : decode cL_law 1133 = .ok (.invokevirtual 113, 3) := by decide +kernel
theorem dcL_1143 : decode cL_law 1143 = .ok (.invokevirtual 116, 3) := by decide +kernel
theorem dcL_1182 : decode cL_law 1182 = .ok (.invokevirtual 117, 3) := by decide +kernel
theorem dcL_1216 : decode cL_law 1216 = .ok (.invokevirtual 120, 3) := by decide +kernel
theorem dcL_1249 : decode cL_law 1249 = .ok (.invokevirtual 121, 3) := by decide +kernel
theorem dcL_1277 : decode cL_law 1277 = .ok (.invokevirtual 124, 3) := by decide +kernel
theorem dcL_1304 : decode cL_law 1304 = .ok (.invokevirtual 125, 3) := by decide +kernel
theorem dcL_1326 : decode cL_law 1326 = .ok (.invokevirtual 128, 3) := by decide +kernel
theorem dcL_1347 : decode cL_law 1347 = .ok (.invokevirtual 129, 3) := by decide +kernel
theorem dcL_1363 : decode cL_law 1363 = .ok (.invokevirtual 132, 3) := by decide +kernel
theorem dcL_1384 : decode cL_law 1384 = .ok (.invokevirtual 133, 3) := by decide +kernel
theorem dcL_1400 : decode cL_law 1400 = .ok (.invokevirtual 136, 3) := by decide +kernel
theorem dcL_1409 : decode cL_law 1409 = .ok (.invokevirtual 137, 3) := by decide +kernel
theorem dcL_1413 : decode cL_law 1413 = .ok (.invokevirtual 140, 3) := by decide +kernel
theorem dcL_1428 : decode cL_law 1428 = .ok (.invokevirtual 141, 3) := by decide +kernel
theorem dcL_1438 : decode cL_law 1438 = .ok (.invokevirtual 144, 3) := by decide +kernel
theorem dcL_1459 : decode cL_law 1459 = .ok (.invokevirtual 145, 3) := by decide +kernel
theorem dcL_1475 : decode cL_law 1475 = .ok (.invokevirtual 148, 3) := by decide +kernel
theorem dcL_1496 : decode cL_law 1496 = .ok (.invokevirtual 149, 3) := by decide +kernel
theorem dcL_1512 : decode cL_law 1512 = .ok (.invokevirtual 153, 3) := by decide +kernel
theorem dcL_1534 : decode cL_law 1534 = .ok (.invokevirtual 154, 3) := by decide +kernel
theorem dcL_1550 : decode cL_law 1550 = .ok (.invokevirtual 157, 3) := by decide +kernel
theorem dcL_1565 : decode cL_law 1565 = .ok (.invokevirtual 158, 3) := by decide +kernel
theorem dcL_1575 : decode cL_law 1575 = .ok (.invokevirtual 162, 3) := by decide +kernel
theorem dcL_1640 : decode cL_law 1640 = .ok (.invokevirtual 168, 3) := by decide +kernel
theorem dcL_1646 : decode cL_law 1646 = .ok (.invokevirtual 169, 3) := by decide +kernel
theorem dcL_1683 : decode cL_law 1683 = .ok (.invokevirtual 172, 3) := by decide +kernel
theorem dcL_1693 : decode cL_law 1693 = .ok (.invokevirtual 175, 3) := by decide +kernel
theorem dcL_1702 : decode cL_law 1702 = .ok (.invokevirtual 176, 3) := by decide +kernel
theorem dcL_1706 : decode cL_law 1706 = .ok (.invokevirtual 179, 3) := by decide +kernel

abbrev fdX14_laws_n : List (Nat ⊕ (Nat × Nat)) := [.inl 0, .inr (0, 7), .inr (0, 17), .inr (0, 18), .inr (0, 19), .inr (0, 20), .inr (0, 21), .inr (0, 22), .inr (0, 23), .inr (0, 26), .inr (0, 27), .inr (0, 28), .inr (0, 31), .inr (0, 32), .inr (0, 33), .inr (0, 34), .inr (0, 36), .inr (0, 37), .inr (0, 38), .inr (0, 39), .inr (0, 40), .inr (0, 41), .inr (0, 43), .inr (0, 44), .inr (0, 45), .inr (0, 46), .inr (0, 47), .inr (0, 48), .inr (0, 50), .inr (0, 51), .inr (0, 52)]
def spX14_laws_n : q_P := fun a w K => ∃ (fr : Value) (th : Int32) (tr : Int32) (wh : Int32) (fa : Int32) (ta : Nat) (sz : Int32) (ix : Int32) (so : Int32) (pl : Int32) (nu : Int32) (wd : Int64) (td : Int32) (mk : Int32) (mo : Int32) (tx : Nat → Int32) (P : PT) (D : DT) (ea : Nat → Int32) (pa : Nat → Int32) (co : Nat → Int32) (S : ST) (Cc : CT) (V : VT) (ba : Nat → Int32) (x : Int32), w = (modelN 0 fr (tk 0 6) th tr wh fa ta sz ix so pl nu wd td mk mo tx P D ea pa co S Cc V ba) ∧ a = [.ref 0, .int x] ∧ (fr = .null ∨ fr = tk 0 5) ∧ K (.inl (some (.int (-1)))) (modelN 0 fr (tk 0 6) (0) (1) (-1) fa ta sz ix so pl nu wd td mk mo tx P D ea pa co S Cc V ba)
abbrev csX14_laws_n : q_S := (2, 14, 10, 4, 0, 0, fdX14_laws_n, spX14_laws_n)
def EX14_laws_n : q_E := (tX14_laws, [], 4, flX14, [(365, csX14_refused), (368, csX14_begins), (204, csX14_next), (400, csX14_readLaws), (375, csX14_wrong), (397, csX14_done)], [], [], [], [], [], 10, 0, 0, (some .int), [(57, 65, 68, 13)], [], 0, 0)
theorem okX14_laws_n (l : Launch) : q_Eok l RX14 cX14_laws EX14_laws_n := ⟨tX14_laws_ok, flX14_ok, List.forall_mem_cons.mpr ⟨(coX14_365 l), List.forall_mem_cons.mpr ⟨(coX14_368 l), List.forall_mem_cons.mpr ⟨(coX14_204 l), List.forall_mem_cons.mpr ⟨(coX14_400 l), List.forall_mem_cons.mpr ⟨(coX14_375 l), List.forall_mem_cons.mpr ⟨(coX14_397 l), q_nil⟩⟩⟩⟩⟩⟩, q_nil, q_nil, q_nil, q_nil, q_nil, (fun h => absurd h (by decide))⟩
set_option maxRecDepth 100000 in
set_option maxHeartbeats 4000000 in
theorem ctX14_laws_n (l : Launch) : q_CT l yX14_laws (.codeWith yX14_laws cX14_laws 4 (some .int) [(57, 65, 68, 13)]) 10 0 0 spX14_laws_n := by
  refine q_ct_ofH EX14_laws_n (by decide +kernel) (okX14_laws_n l) rfl rfl rfl rfl rfl q_nil (fun ci h => by cases h) rfl (by decide) (q_G_i 1245 (by decide +kernel) rfl) ?_
  intro a w K h
  obtain ⟨fr, th, tr, wh, fa, ta, sz, ix, so, pl, nu, wd, td, mk, mo, tx, P, D, ea, pa, co, S, Cc, V, ba, x, rfl, rfl, hfr, hK⟩ := h
  rcases hfr with rfl | rfl
  all_goals
    refine ⟨Nat.le_of_ble_eq_true rfl, fun C hC => hC _ _ _ _ _ _ ?_⟩
    exact ⟨_, _, _, _, _, _, _, _, _, _, _, _, _, _, _, _, _, _, _, _, _, _, _, _, rfl, rfl, hK⟩
theorem coL_32_n (l : Launch) : q_CO l RL 32 csX14_laws_n := ⟨yX14_laws, cX14_laws, (some .int), 1, ⟨by decide +kernel, by decide +kernel, by decide +kernel⟩, q_G_i 17 (by decide +kernel) rfl, Or.inl ⟨by decide, rfl, rfl, q_G_i 1679 (by decide +kernel) rfl, q_G_i 1680 (by decide +kernel) rfl, q_G_i 1681 (by decide +kernel) rfl, Or.inr ⟨[((57 : Nat), (65 : Nat), (68 : Nat), (13 : Nat))], q_G_i 1682 (by decide +kernel) rfl, ctX14_laws_n l⟩⟩⟩
