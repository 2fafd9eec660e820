/-! ===== ways, loads, gifts, clauses: the two sides alike ===== -/
section REL3
variable {B Bm : BT} {R Rm : RT} {L Lm : LT} {G Gm : GT} {P Pm : PT} {D Dm : DT} {S Sm : ST} {Cc Ccm : CT} {Y : YT} {V : VT} {n : Nat}
theorem trv_x {p x d : Int32} (hP : pOk P) (hl : pPl P n) (hB : B.1 0 = nI n) (hn : n ≤ 8) (c : trvR B.1 P p x d = 0) : p.toNatClampNeg < P.2.2.2.2.2.2 ∧ x.toNatClampNeg < n ∧ (P.1 p.toNatClampNeg).toNatClampNeg < n ∧ dayB d = true := by
  obtain ⟨c1, c2, c3⟩ := trvR_0 c
  obtain ⟨q, rfl, hq⟩ := inI (by have := hP.1; omega) c1
  obtain ⟨y, rfl, hy⟩ := toldI hB hn c2
  rw [nI_clamp (by have := hP.1; omega), nI_clamp (by omega)]
  obtain ⟨z, e, hz⟩ := hl q hq
  exact ⟨hq, hy, by rw [e, nI_clamp (by omega)]; exact hz, c3⟩
theorem pdy_x {p d : Int32} (hP : pOk P) (hl : pPl P n) (hn : n ≤ 8) (c : pdyR P p d = 0) : p.toNatClampNeg < P.2.2.2.2.2.2 ∧ (P.1 p.toNatClampNeg).toNatClampNeg < n ∧ dayB d = true := by
  unfold pdyR at c
  split at c
  · next h1 =>
    split at c
    · next h2 =>
      have h3 := per_lt hP h1
      obtain ⟨z, e, hz⟩ := hl _ h3
      exact ⟨h3, by rw [e, nI_clamp (by omega)]; exact hz, h2⟩
    · exact absurd c (by decide)
  · exact absurd c (by decide)
theorem first_m {p x d : Int32} (h : pAg P Pm) (hl : lAg L Lm) (hr : rAg R Rm) (hu : lUn L) (hX : rX R n) (hro : rOk R) (hP : pOk P) (hpl : pPl P n) (hB : B.1 0 = nI n) (hn : n ≤ 8) (c : trvR B.1 P p x d = 0) (W : WT) (ea pa : Nat → Int32) :
    (findD P L R p.toNatClampNeg n (P.1 p.toNatClampNeg).toNatClampNeg d W).1 x.toNatClampNeg = (goF Pm Lm Rm p.toNatClampNeg n (Pm.1 p.toNatClampNeg).toNatClampNeg (-1) (-1) d ea pa).1 x.toNatClampNeg := by
  obtain ⟨h1, h2, h3, h4⟩ := trv_x hP hpl hB hn c
  rw [← (h.2 _ h1).1]
  exact (first_ag h hl hr hu hX.2.2.1 hX.2.2.2 hro.1 h1 hX.1 hn h3 (dayB_I h4).1 (dayB_I h4).2 W ea pa).1.1 _ (by omega)
theorem cheap_m {p x d : Int32} (h : pAg P Pm) (hl : lAg L Lm) (hr : rAg R Rm) (hX : rX R n) (hP : pOk P) (hpl : pPl P n) (hB : B.1 0 = nI n) (hn : n ≤ 8) (c : trvR B.1 P p x d = 0) (f co : Nat → Int32) :
    coinsF P L R p.toNatClampNeg n (P.1 p.toNatClampNeg).toNatClampNeg d f x.toNatClampNeg = payF Pm Lm Rm p.toNatClampNeg (Pm.1 p.toNatClampNeg).toNatClampNeg (-1) (-1) d co x.toNatClampNeg := by
  obtain ⟨h1, h2, h3, h4⟩ := trv_x hP hpl hB hn c
  rw [← (h.2 _ h1).1]
  exact cheap_ag h hl hr h1 (rEnd_g hX.1) hn hX.2.1 h3 (dayB_9 h4) f co h2
theorem reach_m {p d kd of : Int32} (h : pAg P Pm) (hl : lAg L Lm) (hr : rAg R Rm) (hX : rX R n) (hro : rOk R) (hP : pOk P) (hpl : pPl P n) (hn : n ≤ 8) (c : pdyR P p d = 0) (co : Nat → Int32) :
    rchF L R (metB P L R p.toNatClampNeg d) n (P.1 p.toNatClampNeg).toNatClampNeg kd of d = nI (rcN (payF Pm Lm Rm p.toNatClampNeg (Pm.1 p.toNatClampNeg).toNatClampNeg kd of d co) n) := by
  obtain ⟨h1, h3, h4⟩ := pdy_x hP hpl hn c
  rw [← (h.2 _ h1).1]
  exact reach_ag h hl hr h1 (rEnd_g hX.1) hn hX.2.1 hro.1 h3 (dayB_9 h4) co
theorem least_m {x y d : Int32} (hS : rS S Sm) (hl : lAg L Lm) (hr : rAg R Rm) (hX : rX R n) (hB : B.1 0 = nI n) (hn : n ≤ 8) (hx : toldB B.1 0 x = true) (hd : dayB d = true) :
    byR (buyF S.2.2.1 S.2.2.2.2.2.1 (fun s => carB R (fun k => fitF S L R d k S.2.2.2.2.2.1) n s x y)) (lmF Sm.2.2.1 Sm.2.2.2.2.2.1 (fun s => mcarB Rm (fun k => fitF Sm Lm Rm d k Sm.2.2.2.2.2.1) s x y)) := by
  obtain ⟨hs, h9, hc⟩ := hS
  obtain ⟨z, rfl, hz⟩ := toldI hB hn hx
  rw [← hs.1]
  refine byR_all h9 (fun i hi => (hs.2.2 i hi).2.2) (fun j hj => ⟨cstF_nev _ h9 hc, ?_⟩)
  refine car_ag hr (rEnd_g hX.1) hn hz (fun r hrr q q1 q2 => ?_)
  obtain ⟨a1, a2⟩ := (hr.2 r hrr).2.2.2.2.2 q q1 q2
  exact fitF_cg hs hl (dayB_9 hd) a1 a2 _ (Nat.le_refl _)
theorem byR_1 {s t : Int32 × Int32} (h : byR s t) : s.1 = 1000000 ↔ t.1 = -1 := by
  rcases h with ⟨rfl, rfl⟩ | ⟨h1, h2, h3, h4⟩
  · exact ⟨fun _ => rfl, fun _ => rfl⟩
  · exact ⟨fun z => by rw [z] at h4; exact absurd h4 (by decide), fun z => absurd z h3⟩
theorem byR_2 {s t : Int32 × Int32} (h : byR s t) (hs : ¬ s.1 = 1000000) : s.1 = t.2 ∧ s.2 = t.1 := by
  rcases h with ⟨rfl, rfl⟩ | ⟨h1, h2, h3, h4⟩
  · exact absurd rfl hs
  · exact ⟨h1, h2⟩
theorem rS_b {b bm : Int32} {g1 g2 g : Nat → Int32} (h : rS S Sm) (hb : b = bm) : rS (sBgt (sOpn (sFit S g1) g2) b) (sBgt (sFit Sm g) bm) := ⟨⟨h.1.1, hb, h.1.2.2⟩, h.2⟩
theorem rS_f {b : Int32} {g1 g2 g : Nat → Int32} (h : rS S Sm) (hb : b = S.2.2.2.2.2.2) : rS (sBgt (sOpn (sFit S g1) g2) b) (sFit Sm g) := ⟨⟨h.1.1, hb.trans h.1.2.1, h.1.2.2⟩, h.2⟩
theorem child_m {p td : Int32} (hP : rP B P Pm) (hG : gAg G Gm) (hgd : gGd G) (hgo : gOk G) (htd : 0 ≤ td.toInt ∧ td.toInt ≤ 999) (c1 : perB P p = true) (c2 : P.2.2.2.2.2.2 < 30) :
    rP B (gvR G P.2.2.2.2.2.2 p.toNatClampNeg td G.2.2.2.2.2.2.2.2 (peopleAdd P (P.1 p.toNatClampNeg)) (zf 0 G.2.2.2.2.2.2.2.1 G.2.2.2.2.2.2.2.2)) (chM Gm Pm.2.2.2.2.2.2 p.toNatClampNeg td Gm.2.2.2.2.2.2.2.2 (peopleAdd Pm (Pm.1 p.toNatClampNeg)) 0) ∧ (gvR G P.2.2.2.2.2.2 p.toNatClampNeg td G.2.2.2.2.2.2.2.2 (peopleAdd P (P.1 p.toNatClampNeg)) (zf 0 G.2.2.2.2.2.2.2.1 G.2.2.2.2.2.2.2.2)).2.2.2.2.2.2 = P.2.2.2.2.2.2 + 1 := by
  obtain ⟨⟨m, h1, h2, h3⟩, h4, h5, h6⟩ := hP
  have hp := per_lt h5 c1
  obtain ⟨y, ey, hy⟩ := h3 _ hp
  rw [← h4.1, ← hG.1, ← (h4.2 _ hp).1]
  have hc : (peopleAdd P (P.1 p.toNatClampNeg)).2.2.2.2.2.2 = P.2.2.2.2.2.2 + 1 := rfl
  obtain ⟨a1, a2, a3, a4, a5⟩ := gift_ag (c := P.2.2.2.2.2.2) (q := p.toNatClampNeg) hG hgd hgo.1 htd G.2.2.2.2.2.2.2.2 (peopleAdd P (P.1 p.toNatClampNeg)) (peopleAdd Pm (P.1 p.toNatClampNeg)) (zf 0 G.2.2.2.2.2.2.2.1 G.2.2.2.2.2.2.2.2) 0 (pAg_add h4) (pOk_add h5 c2) (by rw [hc]; omega) (by rw [hc]; omega) (fun q q1 q2 => by rw [pcN_add, if_pos rfl] at q2; omega) (pDy_add h6) (fun g hg => by
    rw [zf, if_pos hg, bt_0]
    exact ⟨fun _ => rfl, fun _ => rfl⟩)
  refine ⟨⟨⟨m, h1, h2, fun q hq => ?_⟩, a1, a2, a3⟩, a4.trans hc⟩
  rw [a4] at hq
  rw [a5, ey]
  exact pPl_add h3 hy q hq
theorem w16_of {x : Int32} (h : ¬ (x < 0 ∨ 65535 < x)) : w16 x := by
  obtain ⟨v, a1, a2⟩ := nI_of2 (x := x) (M := 65535) (n := 65535) (by decide) (fun z => h (Or.inl z)) (Int32.not_lt.mp (fun z => h (Or.inr z)))
  subst a2
  intro j hj
  rcases Nat.lt_or_ge j 16 with h1 | h1
  · exact h1
  · exfalso
    have e : (nI v).toBitVec.getLsbD j = false := by
      show (BitVec.ofNat 32 v).getLsbD j = false
      rw [BitVec.getLsbD_ofNat, Nat.testBit_lt_two_pow (Nat.lt_of_lt_of_le (show v < 2 ^ 16 by omega) (Nat.pow_le_pow_right (by decide) h1)), Bool.and_false]
    exact Bool.noConfusion (e.symm.trans hj)
theorem rY_clause {t x : Int32} (h : rY Y V) (ht : thB t = true) (hx : ¬ (x < 0 ∨ 65535 < x)) (hl : tcF Y.1 t.toNatClampNeg < 4) : rY (clauseAdd Y t.toNatClampNeg x) (upd V.1 t.toNatClampNeg (nI (tcF V.1 t.toNatClampNeg + 1)), upd V.2.1 (t.toNatClampNeg * 4 + tcF V.1 t.toNatClampNeg) x, V.2.2) := by
  obtain ⟨h1, h2, h3, h4, h5, h6, h7, h8⟩ := h
  obtain ⟨q, e, hq⟩ := inI (x := t) (n := 9) (by decide) (of_decide_eq_true ht)
  have hq9 : t.toNatClampNeg < 9 := by rw [e, nI_clamp (by omega)]; exact hq
  generalize t.toNatClampNeg = u at *
  have tc : ∀ j, tcF (clauseAdd Y u x).1 j = if j = u then tcF Y.1 u + 1 else tcF Y.1 j := fun j => by
    show (upd Y.1 u (nI (tcF Y.1 u + 1)) j).toNatClampNeg = _
    by_cases z : j = u
    · rw [if_pos z, z, upd_eq, nI_clamp (by omega)]
    · rw [if_neg z, upd_ne z]; rfl
  refine ⟨by rw [h1]; rfl, by rw [h1, h2]; rfl, fun j hj => ?_, h4, h5, fun j k hj hk => ?_, h7, fun z => absurd (show (1 : Int32) = 0 from z) (by decide)⟩
  · rw [tc]
    show upd Y.1 u (nI (tcF Y.1 u + 1)) j = _ ∧ _
    by_cases z : j = u
    · rw [if_pos z, z, upd_eq]; exact ⟨rfl, by omega⟩
    · rw [if_neg z, upd_ne z]; exact h3 j hj
  · rw [tc] at hk
    show w16 (upd Y.2.1 (u * 4 + tcF Y.1 u) x (j * 4 + k))
    by_cases z : j * 4 + k = u * 4 + tcF Y.1 u
    · rw [z, upd_eq]; exact w16_of hx
    · rw [upd_ne z]
      refine h6 j k hj ?_
      by_cases z2 : j = u
      · rw [if_pos z2] at hk
        rw [z2] at z ⊢
        omega
      · rw [if_neg z2] at hk
        exact hk
theorem wd_of {x : Int32} (h : wdB x = true) : x = nI x.toNatClampNeg ∧ x.toNatClampNeg < 16 := by
  obtain ⟨q, e, hq⟩ := inI (x := x) (n := 16) (by decide) (of_decide_eq_true h)
  have e2 : x.toNatClampNeg = q := by rw [e, nI_clamp (by omega)]
  rw [e2]
  exact ⟨e, hq⟩
theorem rY_quar {x y : Int32} (h : rY Y V) (hx : wdB x = true) (hy : wdB y = true) (hl : Y.2.2.2.2.2.2.2.1 < 20) : rY (Y.1, Y.2.1, foesQ Y.2.2.1 x.toNatClampNeg y.toNatClampNeg, Y.2.2.2.1, Y.2.2.2.2.1, Y.2.2.2.2.2.1, Y.2.2.2.2.2.2.1, Y.2.2.2.2.2.2.2.1 + 1, 1) (V.1, V.2.1, upd V.2.2.1 V.2.2.2.2.2.2 x, upd V.2.2.2.1 V.2.2.2.2.2.2 y, V.2.2.2.2.1, V.2.2.2.2.2.1, V.2.2.2.2.2.2 + 1) := by
  obtain ⟨h1, h2, h3, h4, h5, h6, h7, h8⟩ := h
  obtain ⟨ex, hx16⟩ := wd_of hx
  obtain ⟨ey, hy16⟩ := wd_of hy
  refine ⟨h1, h2, h3, by show V.2.2.2.2.2.2 + 1 = Y.2.2.2.2.2.2.2.1 + 1; rw [h4], by show Y.2.2.2.2.2.2.2.1 + 1 ≤ 20; omega, h6, ?_, fun z => absurd (show (1 : Int32) = 0 from z) (by decide)⟩
  have := foR_add h7 hx16 hy16
  rw [← ex, ← ey] at this
  exact this
theorem rY_set {br pi be : Nat → Int32} (h : rY Y V) (hb : brOk Y br 9) : rY (ySet Y br) (vPB V pi be) := by
  obtain ⟨h1, h2, h3, h4, h5, h6, h7, h8⟩ := h
  exact ⟨h1, h2, h3, h4, h5, h6, h7, fun _ => chF_all (foR_sy h7) (fun t i ht hi => ⟨h6 t i ht hi, hb t i ht hi⟩)⟩
theorem rY_pb {pi be : Nat → Int32} (h : rY Y V) : rY Y (vPB V pi be) := h
theorem sig_m {m : Int32} {be : Nat → Int32} (h : rY Y V) (h0 : Y.2.2.2.2.2.2.2.2 = 0) (hb : bsI V (totN (tcF V.1) 9) m be) : Y.2.2.2.2.2.2.1 = m ∧ ∀ t, t < 9 → Y.2.2.2.2.2.1 t = if be t < V.1 t then be t else -2 :=
  sign_ag h.1 h.2.1 (vOk_m h.1 h.2.2.1) h.2.2.2.2.2.2.1 (h.2.2.2.2.2.2.2 h0) hb
end REL3

