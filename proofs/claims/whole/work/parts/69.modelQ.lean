
abbrev fdX14_book_n : List (Nat ⊕ (Nat × Nat)) := [.inl 0, .inr (0, 7), .inr (0, 17), .inr (0, 18), .inr (0, 19), .inr (0, 20), .inr (0, 21), .inr (0, 22), .inr (0, 23), .inr (0, 26), .inr (0, 27), .inr (0, 28), .inr (0, 31), .inr (0, 32), .inr (0, 33), .inr (0, 34), .inr (0, 36), .inr (0, 37), .inr (0, 38), .inr (0, 39), .inr (0, 40), .inr (0, 41), .inr (0, 43), .inr (0, 44), .inr (0, 45), .inr (0, 46), .inr (0, 47), .inr (0, 48), .inr (0, 50), .inr (0, 51), .inr (0, 52), .inr (0, 6)]
def spX14_book_n : q_P := fun a w K => ∃ (fr : Value) (th : Int32) (tr : Int32) (wh : Int32) (fa : Int32) (ta : Nat) (sz : Int32) (ix : Int32) (so : Int32) (pl : Int32) (nu : Int32) (wd : Int64) (td : Int32) (mk : Int32) (mo : Int32) (tx : Nat → Int32) (P : PT) (D : DT) (ea : Nat → Int32) (pa : Nat → Int32) (co : Nat → Int32) (S : ST) (Cc : CT) (V : VT) (ba : Nat → Int32) (sk : Int32) (sp : Int32) (x : Int32), w = (modelYN fr th tr wh fa ta sz ix so pl nu wd td mk mo tx P D ea pa co S Cc V ba sk sp) ∧ a = [.ref 0, .int x] ∧ (fr = .null ∨ fr = tk 0 5) ∧ ta ≤ 700 ∧ (if 0 ≤ x ∧ x ≤ nI ta then ∀ p0, pl = nI p0 → mBookL tx x.toNatClampNeg (fun Q' B' R' L' G' => K (.inl (some (.int (nI L'.2.2.2.2.2.2.2)))) (modelY (.ref 32) (.ref 32) (0) (0) (-1) (0) (0) (x) (nI Q'.1) (Q'.2.1) (nI Q'.2.2.1) (Q'.2.2.2.1) (Q'.2.2.2.2) (0) mk mo tx (pZ P) (dN D) ea pa co (sZ S) (cZ Cc) (vZ V 9) ba sk sp (B') (R') (L') (G'))) (fun e p => ∀ (Q' : QT) (B' : BT) (R' : RT) (L' : LT) (G' : GT), K (.inl (some (.int (-1)))) (modelY (.null) (.ref 32) (0) (4) (nI p) (e) (0) (x) (nI Q'.1) (Q'.2.1) (nI Q'.2.2.1) (Q'.2.2.2.1) (Q'.2.2.2.2) td mk mo tx P D ea pa co S Cc V ba (e) (nI p) (B') (R') (L') (G'))) (x.toNatClampNeg + 1) (nxF tx x.toNatClampNeg (0, so, p0, nu, wd)) zBT zRT zLT zGT else K (.inl (some (.int (-1)))) (modelYN fr (0) (2) (-1) fa ta sz ix so pl nu wd td mk mo tx P D ea pa co S Cc V ba sk sp))
abbrev csX14_book_n : q_S := (2, 14, 11, 3, 26, 608, fdX14_book_n, spX14_book_n)
def EX14_book_n : q_E := (tX14_book, [(102, [0, 2])], 3, flX14, [(365, csX14_refused), (368, csX14_begins), (371, csX12_init), (204, csX14_next), (372, csX14_readBook), (375, csX14_wrong), (397, csX14_done)], [], [], [], [], [], 11, 26, 608, (some .int), [(39, 47, 50, 13)], [(220, 12)], 0, 0)
theorem okX14_book_n (l : Launch) : q_Eok l RX14 cX14_book EX14_book_n := ⟨tX14_book_ok, flX14_ok, List.forall_mem_cons.mpr ⟨(coX14_365 l), List.forall_mem_cons.mpr ⟨(coX14_368 l), List.forall_mem_cons.mpr ⟨(coX14_371 l), List.forall_mem_cons.mpr ⟨(coX14_204 l), List.forall_mem_cons.mpr ⟨(coX14_372 l), List.forall_mem_cons.mpr ⟨(coX14_375 l), List.forall_mem_cons.mpr ⟨(coX14_397 l), q_nil⟩⟩⟩⟩⟩⟩⟩, q_nil, q_nil, q_nil, q_nil, List.forall_mem_cons.mpr ⟨⟨_, _, _, rfl, rfl, q_G_i 1454 (by decide +kernel) rfl, q_G_i 1455 (by decide +kernel) rfl, q_G_i 23 (by decide +kernel) rfl⟩, q_nil⟩, (fun h => absurd h (by decide))⟩
set_option maxRecDepth 100000 in
set_option maxHeartbeats 4000000 in
theorem ctX14_book_n (l : Launch) : q_CT l yX14_book (.codeWith yX14_book cX14_book 3 (some .int) [(39, 47, 50, 13)]) 11 26 608 spX14_book_n := by
  refine q_ct_ofH EX14_book_n (by decide +kernel) (okX14_book_n l) rfl rfl rfl rfl rfl q_nil (fun ci h => by cases h) rfl (by decide) (q_G_i 1245 (by decide +kernel) rfl) ?_
  intro a w K h
  obtain ⟨fr, th, tr, wh, fa, ta, sz, ix, so, pl, nu, wd, td, mk, mo, tx, P, D, ea, pa, co, S, Cc, V, ba, sk, sp, x, rfl, rfl, hfr, ht, hK⟩ := h
  rcases hfr with rfl | rfl
  · refine ⟨Nat.le_of_ble_eq_true rfl, fun C hC => hC _ _ _ _ _ _ ?_⟩
    refine And.intro (fun c => ?_) (fun c => And.intro (fun c2 => ?_) (fun c2 => ?_))
    · rw [if_neg (fun z => absurd c (Int32.not_lt.mpr z.1))] at hK
      exact ⟨_, _, _, _, _, _, _, _, _, _, _, _, _, _, _, _, _, _, _, _, _, _, _, _, rfl, rfl, hK⟩
    · have c9 := And.intro (Int32.not_lt.mp c) c2
      rw [if_pos c9] at hK
      obtain ⟨n, rfl, hn⟩ := inI (n := ta + 1) (x := x) (by omega) ⟨c9.1, by rw [← nI_1]; exact (by
        have h1 := c9.2
        rw [Int32.le_iff_toInt_le, nI_toInt (by omega)] at h1
        rw [Int32.lt_iff_toInt_lt, nI_1, nI_toInt (by omega)]
        omega)⟩
      rw [nI_clamp (by omega)] at hK
      obtain ⟨p0, rfl⟩ := nI_sur pl
      have hK := hK p0 rfl
      have hQ1 : (nxF tx n (0, so, p0, nu, wd)).1 ≤ n := nxF_le (Nat.zero_le _)
      refine ⟨_, _, _, _, _, _, _, _, _, _, _, _, _, _, _, _, _, _, _, _, _, _, _, _, rfl, rfl, ⟨by decide, by decide⟩, ⟨by decide, by decide⟩, rfl, rfl, _, _, _, _, _, _, _, _, _, _, _, _, _, _, n, (0, so, p0, nu, wd), _, _, rfl, rfl, by omega, Nat.zero_le _, (by first | exact Or.inl rfl | exact Or.inr rfl), _, _, _, _, _, _, _, _, _, _, _, _, _, _, n, nxF tx n (0, so, p0, nu, wd), _, _, _, _, zBT, zRT, zLT, zGT, rfl, rfl, by omega, hQ1, (by first | exact Or.inl rfl | exact Or.inr (Or.inl rfl) | exact Or.inr (Or.inr rfl)), zB_i, zR_i, Nat.zero_le _, zG_i, mBookL_mono (fun Q' B' R' L' G' hk => ?_) (fun e p hk => fun Q' B' R' L' G' => ?_) (n + 1) _ _ _ _ _ hQ1 zB_i zR_i (Nat.zero_le _) zG_i hK⟩
      · have loop : ∀ k i, i + k = 9 → C 102 [(0, .ref 0), (2, .int (nI i))] [] (modelY (.ref 32) (.ref 32) (0) tr wh (0) (0) (nI n) (nI Q'.1) (Q'.2.1) (nI Q'.2.2.1) (Q'.2.2.2.1) (Q'.2.2.2.2) (0) mk mo tx (pZ P) (dN D) ea pa co (sZ S) (cZ Cc) (vZ V i) ba sk sp (B') (R') (L') (G')) 26 608 := by
          intro k
          induction k with
          | zero =>
            intro i hi
            have hi : i = 9 := hi
            subst hi
            exact hC _ _ _ _ _ _ (And.intro (fun _ => ⟨_, _, _, _, _, _, _, _, _, _, _, _, _, _, _, _, _, _, _, _, _, _, _, _, rfl, rfl, hk⟩) (fun z => absurd (show (9 : Int32) ≤ nI 9 by decide) z))
          | succ k ih =>
            intro i hi
            have hv : vp_in (nI i) 9 := vp_in_nI (by omega) (by omega)
            have hc : (nI i).toNatClampNeg = i := nI_clamp (by omega)
            have h9 := ih (i + 1) (by omega)
            have e : upd (zf 0 V.1 i) (nI i).toNatClampNeg 0 = zf 0 V.1 (i + 1) := by rw [hc, zf_s]
            unfold vZ at h9
            rw [← nI_1, ← e] at h9
            exact hC _ _ _ _ _ _ (And.intro (fun z => absurd z (nI_ge (b := 9) (by omega) (by omega))) (fun _ => ⟨hv, h9⟩))
        have h9 := loop 9 0 (by omega)
        unfold vZ at h9
        rw [zf_0] at h9
        exact h9
      · exact ⟨_, _, _, _, _, _, _, _, _, _, _, _, _, _, n, Q', _, _, _, _, rfl, rfl, hk Q' B' R' L' G'⟩
    · rw [if_neg (fun z => c2 z.2)] at hK
      exact ⟨_, _, _, _, _, _, _, _, _, _, _, _, _, _, _, _, _, _, _, _, _, _, _, _, rfl, rfl, hK⟩
  · refine ⟨Nat.le_of_ble_eq_true rfl, fun C hC => hC _ _ _ _ _ _ ?_⟩
    refine And.intro (fun c => ?_) (fun c => And.intro (fun c2 => ?_) (fun c2 => ?_))
    · rw [if_neg (fun z => absurd c (Int32.not_lt.mpr z.1))] at hK
      exact ⟨_, _, _, _, _, _, _, _, _, _, _, _, _, _, _, _, _, _, _, _, _, _, _, _, rfl, rfl, hK⟩
    · have c9 := And.intro (Int32.not_lt.mp c) c2
      rw [if_pos c9] at hK
      obtain ⟨n, rfl, hn⟩ := inI (n := ta + 1) (x := x) (by omega) ⟨c9.1, by rw [← nI_1]; exact (by
        have h1 := c9.2
        rw [Int32.le_iff_toInt_le, nI_toInt (by omega)] at h1
        rw [Int32.lt_iff_toInt_lt, nI_1, nI_toInt (by omega)]
        omega)⟩
      rw [nI_clamp (by omega)] at hK
      obtain ⟨p0, rfl⟩ := nI_sur pl
      have hK := hK p0 rfl
      have hQ1 : (nxF tx n (0, so, p0, nu, wd)).1 ≤ n := nxF_le (Nat.zero_le _)
      refine ⟨_, _, _, _, _, _, _, _, _, _, _, _, _, _, _, _, _, _, _, _, _, _, _, _, rfl, rfl, ⟨by decide, by decide⟩, ⟨by decide, by decide⟩, rfl, rfl, _, _, _, _, _, _, _, _, _, _, _, _, _, _, n, (0, so, p0, nu, wd), _, _, rfl, rfl, by omega, Nat.zero_le _, (by first | exact Or.inl rfl | exact Or.inr rfl), _, _, _, _, _, _, _, _, _, _, _, _, _, _, n, nxF tx n (0, so, p0, nu, wd), _, _, _, _, zBT, zRT, zLT, zGT, rfl, rfl, by omega, hQ1, (by first | exact Or.inl rfl | exact Or.inr (Or.inl rfl) | exact Or.inr (Or.inr rfl)), zB_i, zR_i, Nat.zero_le _, zG_i, mBookL_mono (fun Q' B' R' L' G' hk => ?_) (fun e p hk => fun Q' B' R' L' G' => ?_) (n + 1) _ _ _ _ _ hQ1 zB_i zR_i (Nat.zero_le _) zG_i hK⟩
      · have loop : ∀ k i, i + k = 9 → C 102 [(0, .ref 0), (2, .int (nI i))] [] (modelY (.ref 32) (.ref 32) (0) tr wh (0) (0) (nI n) (nI Q'.1) (Q'.2.1) (nI Q'.2.2.1) (Q'.2.2.2.1) (Q'.2.2.2.2) (0) mk mo tx (pZ P) (dN D) ea pa co (sZ S) (cZ Cc) (vZ V i) ba sk sp (B') (R') (L') (G')) 26 608 := by
          intro k
          induction k with
          | zero =>
            intro i hi
            have hi : i = 9 := hi
            subst hi
            exact hC _ _ _ _ _ _ (And.intro (fun _ => ⟨_, _, _, _, _, _, _, _, _, _, _, _, _, _, _, _, _, _, _, _, _, _, _, _, rfl, rfl, hk⟩) (fun z => absurd (show (9 : Int32) ≤ nI 9 by decide) z))
          | succ k ih =>
            intro i hi
            have hv : vp_in (nI i) 9 := vp_in_nI (by omega) (by omega)
            have hc : (nI i).toNatClampNeg = i := nI_clamp (by omega)
            have h9 := ih (i + 1) (by omega)
            have e : upd (zf 0 V.1 i) (nI i).toNatClampNeg 0 = zf 0 V.1 (i + 1) := by rw [hc, zf_s]
            unfold vZ at h9
            rw [← nI_1, ← e] at h9
            exact hC _ _ _ _ _ _ (And.intro (fun z => absurd z (nI_ge (b := 9) (by omega) (by omega))) (fun _ => ⟨hv, h9⟩))
        have h9 := loop 9 0 (by omega)
        unfold vZ at h9
        rw [zf_0] at h9
        exact h9
      · exact ⟨_, _, _, _, _, _, _, _, _, _, _, _, _, _, n, Q', _, _, _, _, rfl, rfl, hk Q' B' R' L' G'⟩
    · rw [if_neg (fun z => c2 z.2)] at hK
      exact ⟨_, _, _, _, _, _, _, _, _, _, _, _, _, _, _, _, _, _, _, _, _, _, _, _, rfl, rfl, hK⟩
