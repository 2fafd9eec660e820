
abbrev fdX14_feed_n : List (Nat ⊕ (Nat × Nat)) := [.inl 0, .inr (0, 7), .inr (0, 17), .inr (0, 18), .inr (0, 19), .inr (0, 20), .inr (0, 21), .inr (0, 22), .inr (0, 23), .inr (0, 26), .inr (0, 27), .inr (0, 28), .inr (0, 31), .inr (0, 32), .inr (0, 33), .inr (0, 34), .inr (0, 36), .inr (0, 37), .inr (0, 38), .inr (0, 39), .inr (0, 40), .inr (0, 41), .inr (0, 43), .inr (0, 44), .inr (0, 45), .inr (0, 46), .inr (0, 47), .inr (0, 48), .inr (0, 50), .inr (0, 51), .inr (0, 52)]
def spX14_feed_n : q_P := fun a w K => ∃ (fr : Value) (th : Int32) (tr : Int32) (wh : Int32) (fa : Int32) (ta : Nat) (sz : Int32) (ix : Int32) (so : Int32) (pl : Int32) (nu : Int32) (wd : Int64) (td : Int32) (mk : Int32) (mo : Int32) (tx : Nat → Int32) (P : PT) (D : DT) (ea : Nat → Int32) (pa : Nat → Int32) (co : Nat → Int32) (S : ST) (Cc : CT) (V : VT) (ba : Nat → Int32) (x1 x2 x3 x4 x5 : Int32), w = (modelN 0 fr (tk 0 6) th tr wh fa ta sz ix so pl nu wd td mk mo tx P D ea pa co S Cc V ba) ∧ a = [.ref 0, .int x1, .int x2, .int x3, .int x4, .int x5] ∧ (fr = .null ∨ fr = tk 0 5) ∧ ta ≤ 700 ∧ (if ta + 20 ≤ 700 then K (.inl (some (.int (nI (ta + 20))))) (modelN 0 fr (tk 0 6) (0) tr wh fa (ta + 20) sz ix so pl nu wd td mk mo (feedF tx ta x1 x2 x3 x4 x5) P D ea pa co S Cc V ba) else K (.inl (some (.int (-1)))) (modelN 0 fr (tk 0 6) (0) tr wh fa ta sz ix so pl nu wd td mk mo tx P D ea pa co S Cc V ba))
abbrev csX14_feed_n : q_S := (6, 14, 0, 8, 0, 0, fdX14_feed_n, spX14_feed_n)
def EX14_feed_n : q_E := (tX14_feed, [(23, [0, 1, 2, 3, 4, 5, 6]), (76, [0, 1, 2, 3, 4, 5, 6])], 8, flX14, [], [], [], [], [], [], 0, 0, 0, (some .int), [], [], 0, 0)
theorem okX14_feed_n (l : Launch) : q_Eok l RX14 cX14_feed EX14_feed_n := ⟨tX14_feed_ok, flX14_ok, q_nil, q_nil, q_nil, q_nil, q_nil, q_nil, (fun h => absurd h (by decide))⟩
set_option maxRecDepth 100000 in
set_option maxHeartbeats 4000000 in
theorem ctX14_feed_n (l : Launch) : q_CT l yX14_feed (.code yX14_feed cX14_feed 8 (some .int)) 0 0 0 spX14_feed_n := by
  refine q_ct_of EX14_feed_n (by decide +kernel) (okX14_feed_n l) rfl rfl rfl rfl rfl q_nil (fun ci h => by cases h) rfl ?_
  intro a w K h
  obtain ⟨fr, th, tr, wh, fa, ta, sz, ix, so, pl, nu, wd, td, mk, mo, tx, P, D, ea, pa, co, S, Cc, V, ba, x1, x2, x3, x4, x5, rfl, rfl, hfr, ht, hK⟩ := h
  rcases hfr with rfl | rfl
  · have e : nI ta + 20 = nI (ta + 20) := nI_add ta 20
    refine ⟨Nat.le_of_ble_eq_true rfl, fun C hC => hC _ _ _ _ _ _ ?_⟩
    refine And.intro (fun c => ?_) (fun c => ?_)
    · have h9 : ta + 20 ≤ 700 := by
        rcases Nat.lt_or_ge 700 (ta + 20) with z | z
        · exact absurd (show nI (ta + 20) ≤ nI 700 from e ▸ c) (nI_ge z (by omega))
        · exact z
      rw [if_pos h9, ← fdM_eq] at hK
      have loop : ∀ j k, k + j = 20 → C 23 [(0, .ref 0), (1, .int x1), (2, .int x2), (3, .int x3), (4, .int x4), (5, .int x5), (6, .int (nI k))] [] (modelN 0 (.null) (tk 0 6) (0) tr wh fa (ta + k) sz ix so pl nu wd td mk mo (fdM tx ta x1 x2 x3 x4 x5 k) P D ea pa co S Cc V ba) 0 0 := by
        intro j
        induction j with
        | zero =>
          intro k hk
          have hk : k = 20 := hk
          subst hk
          exact hC _ _ _ _ _ _ (And.intro (fun _ => hK) (fun z => absurd (show (20 : Int32) ≤ nI 20 by decide) z))
        | succ j ih =>
          intro k hk
          have h8 := ih (k + 1) (by omega)
          rw [fdM, ← nI_1] at h8
          have hv : vp_in (nI (ta + k)) 700 := vp_in_nI (by omega) (by omega)
          have hc : (nI (ta + k)).toNatClampNeg = ta + k := nI_clamp (by omega)
          have fin : C 76 [(0, .ref 0), (1, .int x1), (2, .int x2), (3, .int x3), (4, .int x4), (5, .int x5), (6, .int (nI k))] [.int (selI x1 x2 x3 x4 x5 k)] (modelN 0 (.null) (tk 0 6) (0) tr wh fa (ta + k) sz ix so pl nu wd td mk mo (fdM tx ta x1 x2 x3 x4 x5 k) P D ea pa co S Cc V ba) 0 0 := by
            refine hC _ _ _ _ _ _ ⟨by decide, hv, ?_⟩
            rw [hc]
            unfold modelN modelA at h8
            rw [show nI (ta + (k + 1)) = nI (ta + k) + 1 from (nI_1 _).symm] at h8
            exact h8
          have p4 : ∀ b, b ≤ 20 → ¬ nI b ≤ nI k → k < b := fun b hb z => lt_of_nI (by omega) (by omega) z
          have n4 : ∀ b, b ≤ 20 → nI b ≤ nI k → ¬ k < b := fun b hb z => Nat.not_lt.mpr (le_of_nI (by omega) (by omega) z)
          refine hC _ _ _ _ _ _ (And.intro (fun z => absurd z (nI_ge (b := 20) (by omega) (by omega))) (fun _ => And.intro (fun c1 => And.intro (fun c2 => And.intro (fun c3 => And.intro (fun c4 => ?_) (fun c4 => ?_)) (fun c3 => ?_)) (fun c2 => ?_)) (fun c1 => ?_)))
          · rw [selI, if_neg (n4 4 (by decide) c1), if_neg (n4 8 (by decide) c2), if_neg (n4 12 (by decide) c3), if_neg (n4 16 (by decide) c4)] at fin; exact fin
          · rw [selI, if_neg (n4 4 (by decide) c1), if_neg (n4 8 (by decide) c2), if_neg (n4 12 (by decide) c3), if_pos (p4 16 (by decide) c4)] at fin; exact fin
          · rw [selI, if_neg (n4 4 (by decide) c1), if_neg (n4 8 (by decide) c2), if_pos (p4 12 (by decide) c3)] at fin; exact fin
          · rw [selI, if_neg (n4 4 (by decide) c1), if_pos (p4 8 (by decide) c2)] at fin; exact fin
          · rw [selI, if_pos (p4 4 (by decide) c1)] at fin; exact fin
      exact loop 20 0 (by omega)
    · rw [if_neg (fun z => absurd (show nI ta + 20 ≤ 700 from e.symm ▸ nI_le (b := 700) z (by omega)) c)] at hK
      exact hK
  · have e : nI ta + 20 = nI (ta + 20) := nI_add ta 20
    refine ⟨Nat.le_of_ble_eq_true rfl, fun C hC => hC _ _ _ _ _ _ ?_⟩
    refine And.intro (fun c => ?_) (fun c => ?_)
    · have h9 : ta + 20 ≤ 700 := by
        rcases Nat.lt_or_ge 700 (ta + 20) with z | z
        · exact absurd (show nI (ta + 20) ≤ nI 700 from e ▸ c) (nI_ge z (by omega))
        · exact z
      rw [if_pos h9, ← fdM_eq] at hK
      have loop : ∀ j k, k + j = 20 → C 23 [(0, .ref 0), (1, .int x1), (2, .int x2), (3, .int x3), (4, .int x4), (5, .int x5), (6, .int (nI k))] [] (modelN 0 (tk 0 5) (tk 0 6) (0) tr wh fa (ta + k) sz ix so pl nu wd td mk mo (fdM tx ta x1 x2 x3 x4 x5 k) P D ea pa co S Cc V ba) 0 0 := by
        intro j
        induction j with
        | zero =>
          intro k hk
          have hk : k = 20 := hk
          subst hk
          exact hC _ _ _ _ _ _ (And.intro (fun _ => hK) (fun z => absurd (show (20 : Int32) ≤ nI 20 by decide) z))
        | succ j ih =>
          intro k hk
          have h8 := ih (k + 1) (by omega)
          rw [fdM, ← nI_1] at h8
          have hv : vp_in (nI (ta + k)) 700 := vp_in_nI (by omega) (by omega)
          have hc : (nI (ta + k)).toNatClampNeg = ta + k := nI_clamp (by omega)
          have fin : C 76 [(0, .ref 0), (1, .int x1), (2, .int x2), (3, .int x3), (4, .int x4), (5, .int x5), (6, .int (nI k))] [.int (selI x1 x2 x3 x4 x5 k)] (modelN 0 (tk 0 5) (tk 0 6) (0) tr wh fa (ta + k) sz ix so pl nu wd td mk mo (fdM tx ta x1 x2 x3 x4 x5 k) P D ea pa co S Cc V ba) 0 0 := by
            refine hC _ _ _ _ _ _ ⟨by decide, hv, ?_⟩
            rw [hc]
            unfold modelN modelA at h8
            rw [show nI (ta + (k + 1)) = nI (ta + k) + 1 from (nI_1 _).symm] at h8
            exact h8
          have p4 : ∀ b, b ≤ 20 → ¬ nI b ≤ nI k → k < b := fun b hb z => lt_of_nI (by omega) (by omega) z
          have n4 : ∀ b, b ≤ 20 → nI b ≤ nI k → ¬ k < b := fun b hb z => Nat.not_lt.mpr (le_of_nI (by omega) (by omega) z)
          refine hC _ _ _ _ _ _ (And.intro (fun z => absurd z (nI_ge (b := 20) (by omega) (by omega))) (fun _ => And.intro (fun c1 => And.intro (fun c2 => And.intro (fun c3 => And.intro (fun c4 => ?_) (fun c4 => ?_)) (fun c3 => ?_)) (fun c2 => ?_)) (fun c1 => ?_)))
          · rw [selI, if_neg (n4 4 (by decide) c1), if_neg (n4 8 (by decide) c2), if_neg (n4 12 (by decide) c3), if_neg (n4 16 (by decide) c4)] at fin; exact fin
          · rw [selI, if_neg (n4 4 (by decide) c1), if_neg (n4 8 (by decide) c2), if_neg (n4 12 (by decide) c3), if_pos (p4 16 (by decide) c4)] at fin; exact fin
          · rw [selI, if_neg (n4 4 (by decide) c1), if_neg (n4 8 (by decide) c2), if_pos (p4 12 (by decide) c3)] at fin; exact fin
          · rw [selI, if_neg (n4 4 (by decide) c1), if_pos (p4 8 (by decide) c2)] at fin; exact fin
          · rw [selI, if_pos (p4 4 (by decide) c1)] at fin; exact fin
      exact loop 20 0 (by omega)
    · rw [if_neg (fun z => absurd (show nI ta + 20 ≤ 700 from e.symm ▸ nI_le (b := 700) z (by omega)) c)] at hK
      exact hK
/-- at, sort, place, number, word -/
abbrev QT : Type := Nat × Int32 × Nat × Int32 × Int64
def modelI (th : Int32) (tr : Int32) (wh : Int32) (fa : Int32) (ta : Int32) (td : Int32) (pn : Int32) (mk : Int32) (mo : Int32) (sn : Int32) (bo : Int32) (jn : Int32) (qn : Int32) (cn : Int32) (n : Nat) (Q : QT) (bk : Value) : List q_C := [.inr (14, [.int th, .int tr, .int wh, .int fa, bk, tk 0 5, tk 0 6, tk 0 7, .int ta, .int (nI n), .int (nI Q.1), .int Q.2.1, .int (nI Q.2.2.1), .int Q.2.2.2.1, .long Q.2.2.2.2, .int td, .int pn, tk 0 17, tk 0 18, tk 0 19, tk 0 20, tk 0 21, tk 0 22, tk 0 23, .int mk, .int mo, tk 0 26, tk 0 27, tk 0 28, .int sn, .int bo, tk 0 31, tk 0 32, tk 0 33, tk 0 34, .int jn, tk 0 36, tk 0 37, tk 0 38, tk 0 39, tk 0 40, tk 0 41, .int qn, tk 0 43, tk 0 44, tk 0 45, tk 0 46, tk 0 47, tk 0 48, .int cn, tk 0 50, tk 0 51, tk 0 52])]
def modelX (th : Int32) (tr : Int32) (wh : Int32) (fa : Int32) (ta : Int32) (td : Int32) (pn : Int32) (mk : Int32) (mo : Int32) (sn : Int32) (bo : Int32) (jn : Int32) (qn : Int32) (cn : Int32) (n : Nat) (Q : QT) (bk : Value) (tx : Nat → Int32) : List q_C := [.inr (14, [.int th, .int tr, .int wh, .int fa, bk, tk 0 5, tk 0 6, .ref 1, .int ta, .int (nI n), .int (nI Q.1), .int Q.2.1, .int (nI Q.2.2.1), .int Q.2.2.2.1, .long Q.2.2.2.2, .int td, .int pn, tk 0 17, tk 0 18, tk 0 19, tk 0 20, tk 0 21, tk 0 22, tk 0 23, .int mk, .int mo, tk 0 26, tk 0 27, tk 0 28, .int sn, .int bo, tk 0 31, tk 0 32, tk 0 33, tk 0 34, .int jn, tk 0 36, tk 0 37, tk 0 38, tk 0 39, tk 0 40, tk 0 41, .int qn, tk 0 43, tk 0 44, tk 0 45, tk 0 46, tk 0 47, tk 0 48, .int cn, tk 0 50, tk 0 51, tk 0 52]), .inl (0, 700, .inl tx)]
def modelP (th : Int32) (tr : Int32) (wh : Int32) (fa : Int32) (ta : Int32) (td : Int32) (pn : Int32) (mk : Int32) (mo : Int32) (sn : Int32) (bo : Int32) (jn : Int32) (qn : Int32) (cn : Int32) (n : Nat) (Q : QT) (bk fr : Value) (sk sp : Int32) : List q_C := [.inr (14, [.int th, .int tr, .int wh, .int fa, bk, fr, .ref 1, tk 0 7, .int ta, .int (nI n), .int (nI Q.1), .int Q.2.1, .int (nI Q.2.2.1), .int Q.2.2.2.1, .long Q.2.2.2.2, .int td, .int pn, tk 0 17, tk 0 18, tk 0 19, tk 0 20, tk 0 21, tk 0 22, tk 0 23, .int mk, .int mo, tk 0 26, tk 0 27, tk 0 28, .int sn, .int bo, tk 0 31, tk 0 32, tk 0 33, tk 0 34, .int jn, tk 0 36, tk 0 37, tk 0 38, tk 0 39, tk 0 40, tk 0 41, .int qn, tk 0 43, tk 0 44, tk 0 45, tk 0 46, tk 0 47, tk 0 48, .int cn, tk 0 50, tk 0 51, tk 0 52]), .inr (13, [.null, .null, .null, .null, .null, .int 0, .int sk, .int sp])]
def modelZ (th : Int32) (tr : Int32) (wh : Int32) (fa : Int32) (ta : Int32) (td : Int32) (pn : Int32) (mk : Int32) (mo : Int32) (sn : Int32) (bo : Int32) (jn : Int32) (qn : Int32) (cn : Int32) (n : Nat) (Q : QT) (bk : Value) (tx : Nat → Int32) (sk sp : Int32) (B : BT) (R : RT) (L : LT) (G : GT) : List q_C := [.inr (14, [.int th, .int tr, .int wh, .int fa, bk, .ref 3, .ref 2, .ref 1, .int ta, .int (nI n), .int (nI Q.1), .int Q.2.1, .int (nI Q.2.2.1), .int Q.2.2.2.1, .long Q.2.2.2.2, .int td, .int pn, tk 0 17, tk 0 18, tk 0 19, tk 0 20, tk 0 21, tk 0 22, tk 0 23, .int mk, .int mo, tk 0 26, tk 0 27, tk 0 28, .int sn, .int bo, tk 0 31, tk 0 32, tk 0 33, tk 0 34, .int jn, tk 0 36, tk 0 37, tk 0 38, tk 0 39, tk 0 40, tk 0 41, .int qn, tk 0 43, tk 0 44, tk 0 45, tk 0 46, tk 0 47, tk 0 48, .int cn, tk 0 50, tk 0 51, tk 0 52]), .inl (0, 700, .inl tx), .inr (13, [.null, .null, .null, .null, .null, .int 0, .int sk, .int sp])] ++ mbookW 3 B R L G
def mb (tx : Nat → Int32) (n k : Nat) : Int32 := if k < n then tx k &&& 255 else -1
def tX14_byteAt : List q_I := [(0, .iload_n 1, 1, 0, 0), (1, .aload_n 0, 1, 0, 0), (2, .getfield 136, 3, 0, 0), (5, .if_icmp .ge 16, 3, 0, 21), (8, .aload_n 0, 1, 0, 0), (9, .getfield 20, 3, 0, 0), (12, .iload_n 1, 1, 0, 0), (13, .baload, 1, 0, 0), (14, .sipush 255, 3, 255, 0), (17, .iand, 1, 0, 0), (18, .goto 4, 3, 0, 22), (21, .iconst (-1), 1, (-1), 0), (22, .ireturn, 1, 0, 0)]
theorem tX14_byteAt_ok : (tX14_byteAt.all (q_okI cX14_byteAt)) = true := by decide +kernel

abbrev fdX14_byteAt : List (Nat ⊕ (Nat × Nat)) := [.inl 0, .inr (0, 7)]
def spX14_byteAt : q_P := fun a w K => ∃ (th : Int32) (tr : Int32) (wh : Int32) (fa : Int32) (ta : Int32) (td : Int32) (pn : Int32) (mk : Int32) (mo : Int32) (sn : Int32) (bo : Int32) (jn : Int32) (qn : Int32) (cn : Int32) (n : Nat) (Q : QT) (bk : Value) (tx : Nat → Int32) (k : Nat), w = (modelX th tr wh fa ta td pn mk mo sn bo jn qn cn n Q bk tx) ∧ a = [.ref 0, .int (nI k)] ∧ n ≤ 700 ∧ k ≤ n ∧ K (.inl (some (.int (mb tx n k)))) (modelX th tr wh fa ta td pn mk mo sn bo jn qn cn n Q bk tx)
abbrev csX14_byteAt : q_S := (2, 14, 0, 2, 0, 0, fdX14_byteAt, spX14_byteAt)
def EX14_byteAt : q_E := (tX14_byteAt, [], 2, flX14, [], [], [], [], [], [], 0, 0, 0, (some .int), [], [], 0, 0)
theorem okX14_byteAt (l : Launch) : q_Eok l RX14 cX14_byteAt EX14_byteAt := ⟨tX14_byteAt_ok, flX14_ok, q_nil, q_nil, q_nil, q_nil, q_nil, q_nil, (fun h => absurd h (by decide))⟩
set_option maxRecDepth 100000 in
set_option maxHeartbeats 4000000 in
theorem ctX14_byteAt (l : Launch) : q_CT l yX14_byteAt (.code yX14_byteAt cX14_byteAt 2 (some .int)) 0 0 0 spX14_byteAt := by
  refine q_ct_of EX14_byteAt (by decide +kernel) (okX14_byteAt l) rfl rfl rfl rfl rfl q_nil (fun ci h => by cases h) rfl ?_
  intro a w K h
  obtain ⟨th, tr, wh, fa, ta, td, pn, mk, mo, sn, bo, jn, qn, cn, n, Q, bk, tx, k, rfl, rfl, hn, hk, hK⟩ := h
  have hc : (nI k).toNatClampNeg = k := nI_clamp (by omega)
  refine ⟨Nat.le_of_ble_eq_true rfl, fun C hC => hC _ _ _ _ _ _ ?_⟩
  refine And.intro (fun c => ?_) (fun c => ?_)
  · rw [mb, if_neg (Nat.not_lt.mpr (le_of_nI (by omega) (by omega) c))] at hK
    exact hK
  · have hlt := lt_of_nI (by omega) (by omega) c
    rw [mb, if_pos hlt] at hK
    refine ⟨vp_in_nI (by omega) (by omega), ?_⟩
    rw [hc]
    exact hK
def mskB (tx : Nat → Int32) (n : Nat) : Nat → Nat → Nat
  | 0, i => i
  | f + 1, i => if mb tx n i = 32 then mskB tx n f (i + 1) else i
def mwd (tx : Nat → Int32) (n : Nat) : Nat → Nat → Nat → Int64 → Nat × Nat × Int64
  | 0, i, c, w => (i, c, w)
  | f + 1, i, c, w => if inB (mb tx n i) 97 122 then mwd tx n f (i + 1) (c + 1) (if c < 8 then 32 * w + (mb tx n i - 97 + 1).toInt64 else w) else (i, c, w)
def mnm (tx : Nat → Int32) (n : Nat) : Nat → Nat → Nat → Int32 → Nat × Nat × Int32
  | 0, i, c, w => (i, c, w)
  | f + 1, i, c, w => if inB (mb tx n i) 48 57 then mnm tx n f (i + 1) (c + 1) (if c < 4 then 10 * w + mb tx n i - 48 else w) else (i, c, w)
def nxS (tx : Nat → Int32) (n s : Nat) (Q : QT) : QT :=
  if mb tx n s = -1 then (s, 1, s, Q.2.2.2)
  else if inB (mb tx n s) 97 122 then ((mwd tx n (n - s) s 0 0).1, if (mwd tx n (n - s) s 0 0).2.1 ≤ 8 then 2 else 0, s, Q.2.2.2.1, (mwd tx n (n - s) s 0 0).2.2)
  else if inB (mb tx n s) 48 57 then ((mnm tx n (n - s) s 0 0).1, if (mnm tx n (n - s) s 0 0).2.1 < 5 then 3 else 0, s, (mnm tx n (n - s) s 0 0).2.2, Q.2.2.2.2)
  else if mb tx n s = 59 then (s + 1, 4, s, Q.2.2.2) else (s, 0, s, Q.2.2.2)
def nxF (tx : Nat → Int32) (n : Nat) (Q : QT) : QT := nxS tx n (mskB tx n (n - Q.1) Q.1) Q
theorem mb_n {tx : Nat → Int32} {n : Nat} : mb tx n n = -1 := if_neg (Nat.lt_irrefl n)
theorem mb_lt {tx : Nat → Int32} {n k : Nat} (h : ¬ mb tx n k = -1) : k < n := by
  rcases Nat.lt_or_ge k n with z | z
  · exact z
  · exact absurd (if_neg (Nat.not_lt.mpr z)) h
def bkB (v : Value) : Prop := v = .null ∨ v = tk 0 4
def tX14_next : List q_I := [(0, .aload_n 0, 1, 0, 0), (1, .aload_n 0, 1, 0, 0), (2, .getfield 151, 3, 0, 0), (5, .invokevirtual 154, 3, 0, 0), (8, .bipush 32, 2, 32, 0), (10, .if_icmp .ne 16, 3, 0, 26), (13, .aload_n 0, 1, 0, 0), (14, .dup, 1, 0, 0), (15, .getfield 151, 3, 0, 0), (18, .iconst 1, 1, 1, 0), (19, .iadd, 1, 0, 0), (20, .putfield 151, 3, 0, 0), (23, .goto (-23), 3, 0, 0), (26, .aload_n 0, 1, 0, 0), (27, .aload_n 0, 1, 0, 0), (28, .getfield 151, 3, 0, 0), (31, .putfield 132, 3, 0, 0), (34, .aload_n 0, 1, 0, 0), (35, .iconst 0, 1, 0, 0), (36, .putfield 158, 3, 0, 0), (39, .aload_n 0, 1, 0, 0), (40, .aload_n 0, 1, 0, 0), (41, .getfield 151, 3, 0, 0), (44, .invokevirtual 154, 3, 0, 0), (47, .istore_n 1, 1, 0, 0), (48, .iconst 0, 1, 0, 0), (49, .istore_n 2, 1, 0, 0), (50, .iload_n 1, 1, 0, 0), (51, .iconst (-1), 1, (-1), 0), (52, .if_icmp .ne 11, 3, 0, 63), (55, .aload_n 0, 1, 0, 0), (56, .iconst 1, 1, 1, 0), (57, .putfield 158, 3, 0, 0), (60, .goto 196, 3, 0, 256), (63, .iload_n 1, 1, 0, 0), (64, .invokestatic 161, 3, 0, 0), (67, .ifCond .eq 85, 3, 0, 152), (70, .aload_n 0, 1, 0, 0), (71, .lconst 0, 1, 0, 0), (72, .putfield 165, 3, 0, 0), (75, .aload_n 0, 1, 0, 0), (76, .aload_n 0, 1, 0, 0), (77, .getfield 151, 3, 0, 0), (80, .invokevirtual 154, 3, 0, 0), (83, .invokestatic 161, 3, 0, 0), (86, .ifCond .eq 52, 3, 0, 138), (89, .iload_n 2, 1, 0, 0), (90, .bipush 8, 2, 8, 0), (92, .if_icmp .ge 30, 3, 0, 122), (95, .aload_n 0, 1, 0, 0), (96, .ldc2_w 145, 3, 0, 0), (99, .aload_n 0, 1, 0, 0), (100, .getfield 165, 3, 0, 0), (103, .lmul, 1, 0, 0), (104, .aload_n 0, 1, 0, 0), (105, .aload_n 0, 1, 0, 0), (106, .getfield 151, 3, 0, 0), (109, .invokevirtual 154, 3, 0, 0), (112, .bipush 97, 2, 97, 0), (114, .isub, 1, 0, 0), (115, .iconst 1, 1, 1, 0), (116, .iadd, 1, 0, 0), (117, .i2l, 1, 0, 0), (118, .ladd, 1, 0, 0), (119, .putfield 165, 3, 0, 0), (122, .iinc 2 1, 3, 1, 0), (125, .aload_n 0, 1, 0, 0), (126, .dup, 1, 0, 0), (127, .getfield 151, 3, 0, 0), (130, .iconst 1, 1, 1, 0), (131, .iadd, 1, 0, 0), (132, .putfield 151, 3, 0, 0), (135, .goto (-60), 3, 0, 75), (138, .iload_n 2, 1, 0, 0), (139, .bipush 8, 2, 8, 0), (141, .if_icmp .gt 115, 3, 0, 256), (144, .aload_n 0, 1, 0, 0), (145, .iconst 2, 1, 2, 0), (146, .putfield 158, 3, 0, 0), (149, .goto 107, 3, 0, 256), (152, .iload_n 1, 1, 0, 0), (153, .invokestatic 169, 3, 0, 0), (156, .ifCond .eq 79, 3, 0, 235), (159, .aload_n 0, 1, 0, 0), (160, .iconst 0, 1, 0, 0), (161, .putfield 172, 3, 0, 0), (164, .aload_n 0, 1, 0, 0), (165, .aload_n 0, 1, 0, 0), (166, .getfield 151, 3, 0, 0), (169, .invokevirtual 154, 3, 0, 0), (172, .invokestatic 169, 3, 0, 0), (175, .ifCond .eq 47, 3, 0, 222), (178, .iload_n 2, 1, 0, 0), (179, .iconst 4, 1, 4, 0), (180, .if_icmp .ge 26, 3, 0, 206), (183, .aload_n 0, 1, 0, 0), (184, .bipush 10, 2, 10, 0), (186, .aload_n 0, 1, 0, 0), (187, .getfield 172, 3, 0, 0), (190, .imul, 1, 0, 0), (191, .aload_n 0, 1, 0, 0), (192, .aload_n 0, 1, 0, 0), (193, .getfield 151, 3, 0, 0), (196, .invokevirtual 154, 3, 0, 0), (199, .iadd, 1, 0, 0), (200, .bipush 48, 2, 48, 0), (202, .isub, 1, 0, 0), (203, .putfield 172, 3, 0, 0), (206, .iinc 2 1, 3, 1, 0), (209, .aload_n 0, 1, 0, 0), (210, .dup, 1, 0, 0), (211, .getfield 151, 3, 0, 0), (214, .iconst 1, 1, 1, 0), (215, .iadd, 1, 0, 0), (216, .putfield 151, 3, 0, 0), (219, .goto (-55), 3, 0, 164), (222, .iload_n 2, 1, 0, 0), (223, .iconst 5, 1, 5, 0), (224, .if_icmp .ge 32, 3, 0, 256), (227, .aload_n 0, 1, 0, 0), (228, .iconst 3, 1, 3, 0), (229, .putfield 158, 3, 0, 0), (232, .goto 24, 3, 0, 256), (235, .iload_n 1, 1, 0, 0), (236, .bipush 59, 2, 59, 0), (238, .if_icmp .ne 18, 3, 0, 256), (241, .aload_n 0, 1, 0, 0), (242, .iconst 4, 1, 4, 0), (243, .putfield 158, 3, 0, 0), (246, .aload_n 0, 1, 0, 0), (247, .dup, 1, 0, 0), (248, .getfield 151, 3, 0, 0), (251, .iconst 1, 1, 1, 0), (252, .iadd, 1, 0, 0), (253, .putfield 151, 3, 0, 0), (256, .return_, 1, 0, 0)]
theorem tX14_next_ok : (tX14_next.all (q_okI cX14_next)) = true := by decide +kernel

abbrev fdX14_next : List (Nat ⊕ (Nat × Nat)) := [.inl 0, .inr (0, 7)]
def spX14_next : q_P := fun a w K => ∃ (th : Int32) (tr : Int32) (wh : Int32) (fa : Int32) (ta : Int32) (td : Int32) (pn : Int32) (mk : Int32) (mo : Int32) (sn : Int32) (bo : Int32) (jn : Int32) (qn : Int32) (cn : Int32) (n : Nat) (Q : QT) (bk : Value) (tx : Nat → Int32), w = (modelX th tr wh fa ta td pn mk mo sn bo jn qn cn n Q bk tx) ∧ a = [.ref 0] ∧ n ≤ 700 ∧ Q.1 ≤ n ∧ bkB bk ∧ K (.inl none) (modelX th tr wh fa ta td pn mk mo sn bo jn qn cn n (nxF tx n Q) bk tx)
abbrev csX14_next : q_S := (1, 14, 1, 3, 0, 0, fdX14_next, spX14_next)
theorem coX14_154 (l : Launch) : q_CO l RX14 154 csX14_byteAt := ⟨yX14_byteAt, cX14_byteAt, (some .int), 1, ⟨by decide +kernel, by decide +kernel, by decide +kernel⟩, q_G_i 17 (by decide +kernel) rfl, Or.inl ⟨by decide, rfl, rfl, q_G_i 1578 (by decide +kernel) rfl, q_G_i 1580 (by decide +kernel) rfl, q_G_s (n := 53) 51 (by decide +kernel), Or.inl ⟨q_G_i 1581 (by decide +kernel) rfl, ctX14_byteAt l⟩⟩⟩
theorem coX14_161 (l : Launch) : q_CO l RX14 161 csX14_isLetter := ⟨yX14_isLetter, cX14_isLetter, (some .boolean), 1, ⟨by decide +kernel, by decide +kernel, by decide +kernel⟩, q_G_i 17 (by decide +kernel) rfl, Or.inr (Or.inr (Or.inr ⟨rfl, rfl, q_G_i 1582 (by decide +kernel) rfl, q_G_i 1583 (by decide +kernel) rfl, Or.inl ⟨q_G_i 1584 (by decide +kernel) rfl, ctX14_isLetter l⟩⟩))⟩
theorem coX14_169 (l : Launch) : q_CO l RX14 169 csX14_isDigit := ⟨yX14_isDigit, cX14_isDigit, (some .boolean), 1, ⟨by decide +kernel, by decide +kernel, by decide +kernel⟩, q_G_i 17 (by decide +kernel) rfl, Or.inr (Or.inr (Or.inr ⟨rfl, rfl, q_G_i 1586 (by decide +kernel) rfl, q_G_i 1587 (by decide +kernel) rfl, Or.inl ⟨q_G_i 1588 (by decide +kernel) rfl, ctX14_isDigit l⟩⟩))⟩
def EX14_next : q_E := (tX14_next, [(0, [0]), (26, [0]), (75, [0, 2]), (164, [0, 2])], 3, flX14, [(154, csX14_byteAt), (161, csX14_isLetter), (169, csX14_isDigit)], [(145, 32)], [], [], [], [], 1, 0, 0, none, [], [], 0, 0)
theorem okX14_next (l : Launch) : q_Eok l RX14 cX14_next EX14_next := ⟨tX14_next_ok, flX14_ok, List.forall_mem_cons.mpr ⟨(coX14_154 l), List.forall_mem_cons.mpr ⟨(coX14_161 l), List.forall_mem_cons.mpr ⟨(coX14_169 l), q_nil⟩⟩⟩, List.forall_mem_cons.mpr ⟨q_G_i 1585 (by decide +kernel) rfl, q_nil⟩, q_nil, q_nil, q_nil, q_nil, (fun h => absurd h (by decide))⟩
set_option maxRecDepth 100000 in
set_option maxHeartbeats 4000000 in
theorem ctX14_next (l : Launch) : q_CT l yX14_next (.code yX14_next cX14_next 3 none) 1 0 0 spX14_next := by
  refine q_ct_of EX14_next (by decide +kernel) (okX14_next l) rfl rfl rfl rfl rfl q_nil (fun ci h => by cases h) rfl ?_
  intro a w K h
  obtain ⟨th, tr, wh, fa, ta, td, pn, mk, mo, sn, bo, jn, qn, cn, n, Q, bk, tx, rfl, rfl, hn, hQ, hbk, hK⟩ := h
  rcases hbk with rfl | rfl
  · refine ⟨Nat.le_of_ble_eq_true rfl, fun C hC => ?_⟩
    have word : ∀ f i c (pl : Nat) (nu : Int32) (wd : Int64), i + f = n → c ≤ i → K (.inl none) (modelX th tr wh fa ta td pn mk mo sn bo jn qn cn n (((mwd tx n f i c wd).1, if (mwd tx n f i c wd).2.1 ≤ 8 then 2 else 0, pl, nu, (mwd tx n f i c wd).2.2)) (.null) tx) → C 75 [(0, .ref 0), (2, .int (nI c))] [] (modelX th tr wh fa ta td pn mk mo sn bo jn qn cn n ((i, 0, pl, nu, wd)) (.null) tx) 0 0 := by
      have en : ∀ i c (pl : Nat) (nu : Int32) (wd : Int64), c ≤ i → i ≤ n → K (.inl none) (modelX th tr wh fa ta td pn mk mo sn bo jn qn cn n ((i, if c ≤ 8 then 2 else 0, pl, nu, wd)) (.null) tx) → (8 < nI c → K (.inl none) (modelX th tr wh fa ta td pn mk mo sn bo jn qn cn n ((i, 0, pl, nu, wd)) (.null) tx)) ∧ (¬ 8 < nI c → K (.inl none) (modelX th tr wh fa ta td pn mk mo sn bo jn qn cn n ((i, 2, pl, nu, wd)) (.null) tx)) := by
        intro i c pl nu wd hc hi hK
        refine ⟨fun c2 => ?_, fun c2 => ?_⟩
        · rw [if_neg (fun z => absurd c2 (Int32.not_lt.mpr (nI_le (b := 8) z (by omega))))] at hK; exact hK
        · rw [if_pos (le_of_nI (b := 8) (by omega) (by omega) (Int32.not_lt.mp c2))] at hK; exact hK
      intro f
      induction f with
      | zero =>
        intro i c pl nu wd hi hc hK
        have hi : i = n := hi
        subst hi
        obtain ⟨e1, e2⟩ := en i c pl nu wd hc (Nat.le_refl _) hK
        refine hC _ _ _ _ _ _ ⟨_, _, _, _, _, _, _, _, _, _, _, _, _, _, _, _, _, _, i, rfl, rfl, hn, Nat.le_refl _, _, rfl, rfl, And.intro (fun _ => And.intro e1 e2) (fun z => absurd (by rw [mb_n]; decide) z)⟩
      | succ f ih =>
        intro i c pl nu wd hi hc hK
        refine hC _ _ _ _ _ _ ⟨_, _, _, _, _, _, _, _, _, _, _, _, _, _, _, _, _, _, i, rfl, rfl, hn, by omega, _, rfl, rfl, And.intro (fun c1 => ?_) (fun c1 => ?_)⟩
        · rw [show mwd tx n (f + 1) i c wd = (i, c, wd) from if_neg (by rw [bI_0.mp c1]; decide)] at hK
          obtain ⟨e1, e2⟩ := en i c pl nu wd hc (by omega) hK
          exact And.intro e1 e2
        · rw [show mwd tx n (f + 1) i c wd = _ from if_pos (bI_n0.mp c1)] at hK
          refine And.intro (fun c2 => ?_) (fun c2 => ⟨_, _, _, _, _, _, _, _, _, _, _, _, _, _, _, _, _, _, i, rfl, rfl, hn, by omega, ?_⟩)
          · rw [if_neg (Nat.not_lt.mpr (le_of_nI (a := 8) (by omega) (by omega) c2))] at hK
            have h9 := ih (i + 1) (c + 1) pl nu wd (by omega) (by omega) hK
            rw [← nI_1] at h9
            unfold modelX at h9
            rw [show nI (i + 1, (0 : Int32), pl, nu, wd).1 = nI i + 1 from (nI_1 i).symm] at h9
            exact h9
          · rw [if_pos (lt_of_nI (b := 8) (by omega) (by omega) c2)] at hK
            have h9 := ih (i + 1) (c + 1) pl nu _ (by omega) (by omega) hK
            rw [← nI_1] at h9
            unfold modelX at h9
            rw [show nI (i + 1, (0 : Int32), pl, nu, 32 * wd + (mb tx n i - 97 + 1).toInt64).1 = nI i + 1 from (nI_1 i).symm] at h9
            exact h9
    have num : ∀ f i c (pl : Nat) (nu : Int32) (wd : Int64), i + f = n → c ≤ i → K (.inl none) (modelX th tr wh fa ta td pn mk mo sn bo jn qn cn n (((mnm tx n f i c nu).1, if (mnm tx n f i c nu).2.1 < 5 then 3 else 0, pl, (mnm tx n f i c nu).2.2, wd)) (.null) tx) → C 164 [(0, .ref 0), (2, .int (nI c))] [] (modelX th tr wh fa ta td pn mk mo sn bo jn qn cn n ((i, 0, pl, nu, wd)) (.null) tx) 0 0 := by
      have en : ∀ i c (pl : Nat) (nu : Int32) (wd : Int64), c ≤ i → i ≤ n → K (.inl none) (modelX th tr wh fa ta td pn mk mo sn bo jn qn cn n ((i, if c < 5 then 3 else 0, pl, nu, wd)) (.null) tx) → (5 ≤ nI c → K (.inl none) (modelX th tr wh fa ta td pn mk mo sn bo jn qn cn n ((i, 0, pl, nu, wd)) (.null) tx)) ∧ (¬ 5 ≤ nI c → K (.inl none) (modelX th tr wh fa ta td pn mk mo sn bo jn qn cn n ((i, 3, pl, nu, wd)) (.null) tx)) := by
        intro i c pl nu wd hc hi hK
        refine ⟨fun c2 => ?_, fun c2 => ?_⟩
        · rw [if_neg (Nat.not_lt.mpr (le_of_nI (a := 5) (by omega) (by omega) c2))] at hK; exact hK
        · rw [if_pos (lt_of_nI (b := 5) (by omega) (by omega) c2)] at hK; exact hK
      intro f
      induction f with
      | zero =>
        intro i c pl nu wd hi hc hK
        have hi : i = n := hi
        subst hi
        obtain ⟨e1, e2⟩ := en i c pl nu wd hc (Nat.le_refl _) hK
        refine hC _ _ _ _ _ _ ⟨_, _, _, _, _, _, _, _, _, _, _, _, _, _, _, _, _, _, i, rfl, rfl, hn, Nat.le_refl _, _, rfl, rfl, And.intro (fun _ => And.intro e1 e2) (fun z => absurd (by rw [mb_n]; decide) z)⟩
      | succ f ih =>
        intro i c pl nu wd hi hc hK
        refine hC _ _ _ _ _ _ ⟨_, _, _, _, _, _, _, _, _, _, _, _, _, _, _, _, _, _, i, rfl, rfl, hn, by omega, _, rfl, rfl, And.intro (fun c1 => ?_) (fun c1 => ?_)⟩
        · rw [show mnm tx n (f + 1) i c nu = (i, c, nu) from if_neg (by rw [bI_0.mp c1]; decide)] at hK
          obtain ⟨e1, e2⟩ := en i c pl nu wd hc (by omega) hK
          exact And.intro e1 e2
        · rw [show mnm tx n (f + 1) i c nu = _ from if_pos (bI_n0.mp c1)] at hK
          refine And.intro (fun c2 => ?_) (fun c2 => ⟨_, _, _, _, _, _, _, _, _, _, _, _, _, _, _, _, _, _, i, rfl, rfl, hn, by omega, ?_⟩)
          · rw [if_neg (Nat.not_lt.mpr (le_of_nI (a := 4) (by omega) (by omega) c2))] at hK
            have h9 := ih (i + 1) (c + 1) pl nu wd (by omega) (by omega) hK
            rw [← nI_1] at h9
            unfold modelX at h9
            rw [show nI (i + 1, (0 : Int32), pl, nu, wd).1 = nI i + 1 from (nI_1 i).symm] at h9
            exact h9
          · rw [if_pos (lt_of_nI (b := 4) (by omega) (by omega) c2)] at hK
            have h9 := ih (i + 1) (c + 1) pl _ wd (by omega) (by omega) hK
            rw [← nI_1] at h9
            unfold modelX at h9
            rw [show nI (i + 1, (0 : Int32), pl, 10 * nu + mb tx n i - 48, wd).1 = nI i + 1 from (nI_1 i).symm] at h9
            exact h9
    have main : ∀ i (so : Int32) (pl : Nat) (nu : Int32) (wd : Int64), i ≤ n → K (.inl none) (modelX th tr wh fa ta td pn mk mo sn bo jn qn cn n (nxS tx n i (i, so, pl, nu, wd)) (.null) tx) → C 26 [(0, .ref 0)] [] (modelX th tr wh fa ta td pn mk mo sn bo jn qn cn n ((i, so, pl, nu, wd)) (.null) tx) 0 0 := by
      intro i so pl nu wd hi hK
      refine hC _ _ _ _ _ _ ⟨_, _, _, _, _, _, _, _, _, _, _, _, _, _, _, (i, 0, i, nu, wd), _, _, i, rfl, rfl, hn, hi, And.intro (fun c => ⟨_, rfl, rfl, And.intro (fun c2 => ⟨_, rfl, rfl, And.intro (fun c3 => And.intro (fun c4 => ?_) (fun c4 => ?_)) (fun c3 => ?_)⟩) (fun c2 => ?_)⟩) (fun c => ?_)⟩
      · rw [nxS, if_neg c, if_neg (by rw [bI_0.mp c2]; decide), if_neg (by rw [bI_0.mp c3]; decide), if_neg c4] at hK
        exact hK
      · rw [nxS, if_neg c, if_neg (by rw [bI_0.mp c2]; decide), if_neg (by rw [bI_0.mp c3]; decide), if_pos c4] at hK
        unfold modelX at hK
        rw [show nI ((i + 1, (4 : Int32), i, nu, wd) : QT).1 = nI i + 1 from (nI_1 i).symm] at hK
        exact hK
      · rw [nxS, if_neg c, if_neg (by rw [bI_0.mp c2]; decide), if_pos (bI_n0.mp c3)] at hK
        have hlt := mb_lt c
        exact num (n - i) i 0 i 0 wd (by omega) (Nat.zero_le _) hK
      · rw [nxS, if_neg c, if_pos (bI_n0.mp c2)] at hK
        have hlt := mb_lt c
        exact word (n - i) i 0 i nu 0 (by omega) (Nat.zero_le _) hK
      · rw [nxS, if_pos c] at hK
        exact hK
    have blank : ∀ f i (so : Int32) (pl : Nat) (nu : Int32) (wd : Int64), i + f = n → K (.inl none) (modelX th tr wh fa ta td pn mk mo sn bo jn qn cn n (nxS tx n (mskB tx n f i) (i, so, pl, nu, wd)) (.null) tx) → C 0 [(0, .ref 0)] [] (modelX th tr wh fa ta td pn mk mo sn bo jn qn cn n ((i, so, pl, nu, wd)) (.null) tx) 0 0 := by
      intro f
      induction f with
      | zero =>
        intro i so pl nu wd hi hK
        have hi : i = n := hi
        subst hi
        exact hC _ _ _ _ _ _ ⟨_, _, _, _, _, _, _, _, _, _, _, _, _, _, _, _, _, _, i, rfl, rfl, hn, Nat.le_refl _, And.intro (fun _ => main i so pl nu wd (Nat.le_refl _) hK) (fun z => absurd z (by rw [mb_n]; decide))⟩
      | succ f ih =>
        intro i so pl nu wd hi hK
        refine hC _ _ _ _ _ _ ⟨_, _, _, _, _, _, _, _, _, _, _, _, _, _, _, _, _, _, i, rfl, rfl, hn, by omega, And.intro (fun c => ?_) (fun c => ?_)⟩
        · rw [mskB, if_neg c] at hK
          exact main i so pl nu wd (by omega) hK
        · rw [mskB, if_pos c] at hK
          have h9 := ih (i + 1) so pl nu wd (by omega) hK
          unfold modelX at h9
          rw [show nI (i + 1, so, pl, nu, wd).1 = nI i + 1 from (nI_1 i).symm] at h9
          exact h9
    exact blank (n - Q.1) Q.1 Q.2.1 Q.2.2.1 Q.2.2.2.1 Q.2.2.2.2 (by omega) hK
  · refine ⟨Nat.le_of_ble_eq_true rfl, fun C hC => ?_⟩
    have word : ∀ f i c (pl : Nat) (nu : Int32) (wd : Int64), i + f = n → c ≤ i → K (.inl none) (modelX th tr wh fa ta td pn mk mo sn bo jn qn cn n (((mwd tx n f i c wd).1, if (mwd tx n f i c wd).2.1 ≤ 8 then 2 else 0, pl, nu, (mwd tx n f i c wd).2.2)) (tk 0 4) tx) → C 75 [(0, .ref 0), (2, .int (nI c))] [] (modelX th tr wh fa ta td pn mk mo sn bo jn qn cn n ((i, 0, pl, nu, wd)) (tk 0 4) tx) 0 0 := by
      have en : ∀ i c (pl : Nat) (nu : Int32) (wd : Int64), c ≤ i → i ≤ n → K (.inl none) (modelX th tr wh fa ta td pn mk mo sn bo jn qn cn n ((i, if c ≤ 8 then 2 else 0, pl, nu, wd)) (tk 0 4) tx) → (8 < nI c → K (.inl none) (modelX th tr wh fa ta td pn mk mo sn bo jn qn cn n ((i, 0, pl, nu, wd)) (tk 0 4) tx)) ∧ (¬ 8 < nI c → K (.inl none) (modelX th tr wh fa ta td pn mk mo sn bo jn qn cn n ((i, 2, pl, nu, wd)) (tk 0 4) tx)) := by
        intro i c pl nu wd hc hi hK
        refine ⟨fun c2 => ?_, fun c2 => ?_⟩
        · rw [if_neg (fun z => absurd c2 (Int32.not_lt.mpr (nI_le (b := 8) z (by omega))))] at hK; exact hK
        · rw [if_pos (le_of_nI (b := 8) (by omega) (by omega) (Int32.not_lt.mp c2))] at hK; exact hK
      intro f
      induction f with
      | zero =>
        intro i c pl nu wd hi hc hK
        have hi : i = n := hi
        subst hi
        obtain ⟨e1, e2⟩ := en i c pl nu wd hc (Nat.le_refl _) hK
        refine hC _ _ _ _ _ _ ⟨_, _, _, _, _, _, _, _, _, _, _, _, _, _, _, _, _, _, i, rfl, rfl, hn, Nat.le_refl _, _, rfl, rfl, And.intro (fun _ => And.intro e1 e2) (fun z => absurd (by rw [mb_n]; decide) z)⟩
      | succ f ih =>
        intro i c pl nu wd hi hc hK
        refine hC _ _ _ _ _ _ ⟨_, _, _, _, _, _, _, _, _, _, _, _, _, _, _, _, _, _, i, rfl, rfl, hn, by omega, _, rfl, rfl, And.intro (fun c1 => ?_) (fun c1 => ?_)⟩
        · rw [show mwd tx n (f + 1) i c wd = (i, c, wd) from if_neg (by rw [bI_0.mp c1]; decide)] at hK
          obtain ⟨e1, e2⟩ := en i c pl nu wd hc (by omega) hK
          exact And.intro e1 e2
        · rw [show mwd tx n (f + 1) i c wd = _ from if_pos (bI_n0.mp c1)] at hK
          refine And.intro (fun c2 => ?_) (fun c2 => ⟨_, _, _, _, _, _, _, _, _, _, _, _, _, _, _, _, _, _, i, rfl, rfl, hn, by omega, ?_⟩)
          · rw [if_neg (Nat.not_lt.mpr (le_of_nI (a := 8) (by omega) (by omega) c2))] at hK
            have h9 := ih (i + 1) (c + 1) pl nu wd (by omega) (by omega) hK
            rw [← nI_1] at h9
            unfold modelX at h9
            rw [show nI (i + 1, (0 : Int32), pl, nu, wd).1 = nI i + 1 from (nI_1 i).symm] at h9
            exact h9
          · rw [if_pos (lt_of_nI (b := 8) (by omega) (by omega) c2)] at hK
            have h9 := ih (i + 1) (c + 1) pl nu _ (by omega) (by omega) hK
            rw [← nI_1] at h9
            unfold modelX at h9
            rw [show nI (i + 1, (0 : Int32), pl, nu, 32 * wd + (mb tx n i - 97 + 1).toInt64).1 = nI i + 1 from (nI_1 i).symm] at h9
            exact h9
    have num : ∀ f i c (pl : Nat) (nu : Int32) (wd : Int64), i + f = n → c ≤ i → K (.inl none) (modelX th tr wh fa ta td pn mk mo sn bo jn qn cn n (((mnm tx n f i c nu).1, if (mnm tx n f i c nu).2.1 < 5 then 3 else 0, pl, (mnm tx n f i c nu).2.2, wd)) (tk 0 4) tx) → C 164 [(0, .ref 0), (2, .int (nI c))] [] (modelX th tr wh fa ta td pn mk mo sn bo jn qn cn n ((i, 0, pl, nu, wd)) (tk 0 4) tx) 0 0 := by
      have en : ∀ i c (pl : Nat) (nu : Int32) (wd : Int64), c ≤ i → i ≤ n → K (.inl none) (modelX th tr wh fa ta td pn mk mo sn bo jn qn cn n ((i, if c < 5 then 3 else 0, pl, nu, wd)) (tk 0 4) tx) → (5 ≤ nI c → K (.inl none) (modelX th tr wh fa ta td pn mk mo sn bo jn qn cn n ((i, 0, pl, nu, wd)) (tk 0 4) tx)) ∧ (¬ 5 ≤ nI c → K (.inl none) (modelX th tr wh fa ta td pn mk mo sn bo jn qn cn n ((i, 3, pl, nu, wd)) (tk 0 4) tx)) := by
        intro i c pl nu wd hc hi hK
        refine ⟨fun c2 => ?_, fun c2 => ?_⟩
        · rw [if_neg (Nat.not_lt.mpr (le_of_nI (a := 5) (by omega) (by omega) c2))] at hK; exact hK
        · rw [if_pos (lt_of_nI (b := 5) (by omega) (by omega) c2)] at hK; exact hK
      intro f
      induction f with
      | zero =>
        intro i c pl nu wd hi hc hK
        have hi : i = n := hi
        subst hi
        obtain ⟨e1, e2⟩ := en i c pl nu wd hc (Nat.le_refl _) hK
        refine hC _ _ _ _ _ _ ⟨_, _, _, _, _, _, _, _, _, _, _, _, _, _, _, _, _, _, i, rfl, rfl, hn, Nat.le_refl _, _, rfl, rfl, And.intro (fun _ => And.intro e1 e2) (fun z => absurd (by rw [mb_n]; decide) z)⟩
      | succ f ih =>
        intro i c pl nu wd hi hc hK
        refine hC _ _ _ _ _ _ ⟨_, _, _, _, _, _, _, _, _, _, _, _, _, _, _, _, _, _, i, rfl, rfl, hn, by omega, _, rfl, rfl, And.intro (fun c1 => ?_) (fun c1 => ?_)⟩
        · rw [show mnm tx n (f + 1) i c nu = (i, c, nu) from if_neg (by rw [bI_0.mp c1]; decide)] at hK
          obtain ⟨e1, e2⟩ := en i c pl nu wd hc (by omega) hK
          exact And.intro e1 e2
        · rw [show mnm tx n (f + 1) i c nu = _ from if_pos (bI_n0.mp c1)] at hK
          refine And.intro (fun c2 => ?_) (fun c2 => ⟨_, _, _, _, _, _, _, _, _, _, _, _, _, _, _, _, _, _, i, rfl, rfl, hn, by omega, ?_⟩)
          · rw [if_neg (Nat.not_lt.mpr (le_of_nI (a := 4) (by omega) (by omega) c2))] at hK
            have h9 := ih (i + 1) (c + 1) pl nu wd (by omega) (by omega) hK
            rw [← nI_1] at h9
            unfold modelX at h9
            rw [show nI (i + 1, (0 : Int32), pl, nu, wd).1 = nI i + 1 from (nI_1 i).symm] at h9
            exact h9
          · rw [if_pos (lt_of_nI (b := 4) (by omega) (by omega) c2)] at hK
            have h9 := ih (i + 1) (c + 1) pl _ wd (by omega) (by omega) hK
            rw [← nI_1] at h9
            unfold modelX at h9
            rw [show nI (i + 1, (0 : Int32), pl, 10 * nu + mb tx n i - 48, wd).1 = nI i + 1 from (nI_1 i).symm] at h9
            exact h9
    have main : ∀ i (so : Int32) (pl : Nat) (nu : Int32) (wd : Int64), i ≤ n → K (.inl none) (modelX th tr wh fa ta td pn mk mo sn bo jn qn cn n (nxS tx n i (i, so, pl, nu, wd)) (tk 0 4) tx) → C 26 [(0, .ref 0)] [] (modelX th tr wh fa ta td pn mk mo sn bo jn qn cn n ((i, so, pl, nu, wd)) (tk 0 4) tx) 0 0 := by
      intro i so pl nu wd hi hK
      refine hC _ _ _ _ _ _ ⟨_, _, _, _, _, _, _, _, _, _, _, _, _, _, _, (i, 0, i, nu, wd), _, _, i, rfl, rfl, hn, hi, And.intro (fun c => ⟨_, rfl, rfl, And.intro (fun c2 => ⟨_, rfl, rfl, And.intro (fun c3 => And.intro (fun c4 => ?_) (fun c4 => ?_)) (fun c3 => ?_)⟩) (fun c2 => ?_)⟩) (fun c => ?_)⟩
      · rw [nxS, if_neg c, if_neg (by rw [bI_0.mp c2]; decide), if_neg (by rw [bI_0.mp c3]; decide), if_neg c4] at hK
        exact hK
      · rw [nxS, if_neg c, if_neg (by rw [bI_0.mp c2]; decide), if_neg (by rw [bI_0.mp c3]; decide), if_pos c4] at hK
        unfold modelX at hK
        rw [show nI ((i + 1, (4 : Int32), i, nu, wd) : QT).1 = nI i + 1 from (nI_1 i).symm] at hK
        exact hK
      · rw [nxS, if_neg c, if_neg (by rw [bI_0.mp c2]; decide), if_pos (bI_n0.mp c3)] at hK
        have hlt := mb_lt c
        exact num (n - i) i 0 i 0 wd (by omega) (Nat.zero_le _) hK
      · rw [nxS, if_neg c, if_pos (bI_n0.mp c2)] at hK
        have hlt := mb_lt c
        exact word (n - i) i 0 i nu 0 (by omega) (Nat.zero_le _) hK
      · rw [nxS, if_pos c] at hK
        exact hK
    have blank : ∀ f i (so : Int32) (pl : Nat) (nu : Int32) (wd : Int64), i + f = n → K (.inl none) (modelX th tr wh fa ta td pn mk mo sn bo jn qn cn n (nxS tx n (mskB tx n f i) (i, so, pl, nu, wd)) (tk 0 4) tx) → C 0 [(0, .ref 0)] [] (modelX th tr wh fa ta td pn mk mo sn bo jn qn cn n ((i, so, pl, nu, wd)) (tk 0 4) tx) 0 0 := by
      intro f
      induction f with
      | zero =>
        intro i so pl nu wd hi hK
        have hi : i = n := hi
        subst hi
        exact hC _ _ _ _ _ _ ⟨_, _, _, _, _, _, _, _, _, _, _, _, _, _, _, _, _, _, i, rfl, rfl, hn, Nat.le_refl _, And.intro (fun _ => main i so pl nu wd (Nat.le_refl _) hK) (fun z => absurd z (by rw [mb_n]; decide))⟩
      | succ f ih =>
        intro i so pl nu wd hi hK
        refine hC _ _ _ _ _ _ ⟨_, _, _, _, _, _, _, _, _, _, _, _, _, _, _, _, _, _, i, rfl, rfl, hn, by omega, And.intro (fun c => ?_) (fun c => ?_)⟩
        · rw [mskB, if_neg c] at hK
          exact main i so pl nu wd (by omega) hK
        · rw [mskB, if_pos c] at hK
          have h9 := ih (i + 1) so pl nu wd (by omega) hK
          unfold modelX at h9
          rw [show nI (i + 1, so, pl, nu, wd).1 = nI i + 1 from (nI_1 i).symm] at h9
          exact h9
    exact blank (n - Q.1) Q.1 Q.2.1 Q.2.2.1 Q.2.2.2.1 Q.2.2.2.2 (by omega) hK
