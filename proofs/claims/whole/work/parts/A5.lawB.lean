/-! ===== with a book: how the relation goes on ===== -/
section REL2
variable {B Bm : BT} {R Rm : RT} {L Lm : LT} {G Gm : GT} {P Pm : PT} {D Dm : DT} {S Sm : ST} {Cc Ccm : CT} {Y : YT} {V : VT}
theorem rJ_pass {tl : Nat} {td tr x : Int32} {tx : Nat → Int32} {rb : Value} {N : NT} {wh : Int32} (h : rJ tl td tr tx rb N wh) (hx : ¬ (x < 1 ∨ 400 < x ∨ 999 < td + x)) : rJ tl (td + x) 0 tx rb N (-1) := by
  refine ⟨h.1, h.2.1, by rw [if_neg (by decide)], h.2.2.2.1, ?_⟩
  obtain ⟨h1, h2⟩ := h.2.2.2.2
  have a1 : ¬ x < 1 := fun z => hx (Or.inl z)
  have a2 : ¬ 400 < x := fun z => hx (Or.inr (Or.inl z))
  have a3 : ¬ 999 < td + x := fun z => hx (Or.inr (Or.inr z))
  rw [Int32.lt_iff_toInt_lt] at a1 a2 a3
  have e1 : (1 : Int32).toInt = 1 := by decide
  have e2 : (400 : Int32).toInt = 400 := by decide
  have e3 : (999 : Int32).toInt = 999 := by decide
  rw [e1] at a1
  rw [e2] at a2
  have e4 : (td + x).toInt = td.toInt + x.toInt := by
    rw [Int32.toInt_add, Int.bmod_eq_of_le (by omega) (by omega)]
  rw [e3, e4] at a3
  rw [e4]
  omega
theorem upd_B {tx : Nat → Int32} (h : txB tx) {i : Nat} {v : Int32} (hv : -128 ≤ v.toInt ∧ v.toInt ≤ 127) : txB (upd tx i v) := fun k => by
  unfold upd
  split
  · exact hv
  · exact h k
theorem byI_B (x y : Int32) : -128 ≤ (byI x y).toInt ∧ (byI x y).toInt ≤ 127 := by
  have h : ∀ v : Int8, -128 ≤ v.toInt32.toInt ∧ v.toInt32.toInt ≤ 127 := fun v => by
    rw [Int8.toInt_toInt32]
    exact ⟨Int8.le_toInt v, by have := Int8.toInt_lt v; omega⟩
  exact h _
theorem put4_B {tx : Nat → Int32} (h : txB tx) (i : Nat) (x : Int32) : txB (put4 tx i x) := upd_B (upd_B (upd_B (upd_B h (byI_B _ _)) (byI_B _ _)) (byI_B _ _)) (byI_B _ _)
theorem feed_B {tx : Nat → Int32} (h : txB tx) (i : Nat) (a b c d e : Int32) : txB (feedF tx i a b c d e) := put4_B (put4_B (put4_B (put4_B (put4_B h _ _) _ _) _ _) _ _) _ _
theorem rJ_feed {tl : Nat} {td tr a b c d e : Int32} {tx : Nat → Int32} {rb : Value} {N : NT} {wh : Int32} (h : rJ tl td tr tx rb N wh) (hx : tl + 20 ≤ 700) : rJ (tl + 20) td tr (feedF tx tl a b c d e) rb N wh := ⟨hx, feed_B h.2.1 _ _ _ _ _ _, h.2.2⟩
theorem pAg_add {x : Int32} (h : pAg P Pm) : pAg (peopleAdd P x) (peopleAdd Pm x) := by
  refine ⟨by show P.2.2.2.2.2.2 + 1 = Pm.2.2.2.2.2.2 + 1; rw [h.1], fun p hp => ?_⟩
  have hp : p < P.2.2.2.2.2.2 + 1 := hp
  have hx : (peopleAdd P x).1 = upd P.1 P.2.2.2.2.2.2 x ∧ (peopleAdd Pm x).1 = upd Pm.1 P.2.2.2.2.2.2 x ∧ (peopleAdd P x).2.1 = upd P.2.1 P.2.2.2.2.2.2 0 ∧ (peopleAdd Pm x).2.1 = upd Pm.2.1 P.2.2.2.2.2.2 0 := ⟨rfl, by rw [h.1]; rfl, rfl, by rw [h.1]; rfl⟩
  rw [hx.1, hx.2.1, hx.2.2.1, hx.2.2.2]
  by_cases e : p = P.2.2.2.2.2.2
  · subst e
    rw [upd_eq, upd_eq, upd_eq, upd_eq, pcN_add, if_pos rfl]
    exact ⟨rfl, rfl, fun q q1 q2 => by omega⟩
  · rw [upd_ne e, upd_ne e, upd_ne e, upd_ne e, pcN_add, if_neg e]
    exact h.2 p (by omega)
theorem pDy_add {x : Int32} (h : pDy P) : pDy (peopleAdd P x) := fun p hp q q1 q2 => by
  have hp : p < P.2.2.2.2.2.2 + 1 := hp
  rw [pcN_add] at q2
  split at q2
  · omega
  · exact h p (by omega) q q1 q2
theorem pPl_add {n y : Nat} (h : pPl P n) (hy : y < n) : pPl (peopleAdd P (nI y)) n := fun p hp => by
  have hp : p < P.2.2.2.2.2.2 + 1 := hp
  show ∃ x, upd P.1 P.2.2.2.2.2.2 (nI y) p = nI x ∧ x < n
  by_cases e : p = P.2.2.2.2.2.2
  · subst e
    exact ⟨y, upd_eq _ _ _, hy⟩
  · rw [upd_ne e]
    exact h p (by omega)
theorem rP_add {x : Int32} (h : rP B P Pm) (hb : toldB B.1 0 x = true) (hl : P.2.2.2.2.2.2 < 30) : rP B (peopleAdd P x) (peopleAdd Pm x) := by
  obtain ⟨⟨n, h1, h2, h3⟩, h4, h5, h6⟩ := h
  obtain ⟨y, rfl, hy⟩ := toldI h1 h2 hb
  exact ⟨⟨n, h1, h2, pPl_add h3 hy⟩, pAg_add h4, pOk_add h5 hl, pDy_add h6⟩
theorem rD_add {Q : PT} (hq : Q.2.2.2.2.2.2 = P.2.2.2.2.2.2 + 1) (h : rD P D Dm) (hp : pAg P Pm) (hl : P.2.2.2.2.2.2 < 30) : rD Q D (Dm.1, Dm.2.1, vp_updL Dm.2.2.1 Pm.2.2.2.2.2.2 0, Dm.2.2.2) := by
  obtain ⟨h1, h2, h3, h4, h5⟩ := h
  refine ⟨h1, ⟨h2.1, fun i hi => ?_⟩, h3, fun p hpp => ?_, fun p hpp => ?_⟩
  · obtain ⟨q, a1, a2⟩ := h2.2 i hi
    exact ⟨q, a1, by omega⟩
  · show (if p = Pm.2.2.2.2.2.2 then 0 else Dm.2.2.1 p) = D.2.2.1 p
    rw [← hp.1]
    by_cases e : p = P.2.2.2.2.2.2
    · rw [if_pos e, h5 p (by omega) (by omega)]
    · rw [if_neg e]
      exact h4 p (by omega)
  · intro h30
    exact h5 p (by omega) h30
theorem rP_give {p k o f t : Int32} (h : rP B P Pm) (hb : perB P p = true) (hl : pcN P p.toNatClampNeg < 8) (hf : 0 ≤ f.toInt ∧ f.toInt ≤ 999) : rP B (peopleGive P p.toNatClampNeg k o f t) (peopleGive Pm p.toNatClampNeg k o f t) := by
  obtain ⟨h0, h4, h5, h6⟩ := h
  have hp := per_lt h5 hb
  exact ⟨h0, pAg_give h4 h5 hp hl, pOk_give h5 hp hl, pDy_give h6 h5 hp hl hf⟩
theorem rP_move {p x : Int32} (h : rP B P Pm) (hb : perB P p = true) (hx : toldB B.1 0 x = true) : rP B (upd P.1 p.toNatClampNeg x, P.2) (upd Pm.1 p.toNatClampNeg x, Pm.2) := by
  obtain ⟨⟨n, h1, h2, h3⟩, h4, h5, h6⟩ := h
  obtain ⟨y, rfl, hy⟩ := toldI h1 h2 hx
  refine ⟨⟨n, h1, h2, fun q hq => ?_⟩, ⟨h4.1, fun q hq => ?_⟩, h5, h6⟩
  · show ∃ x, upd P.1 p.toNatClampNeg (nI y) q = nI x ∧ x < n
    by_cases e : q = p.toNatClampNeg
    · rw [e]; exact ⟨y, upd_eq _ _ _, hy⟩
    · rw [upd_ne e]; exact h3 q hq
  · obtain ⟨a1, a2, a3⟩ := h4.2 q hq
    refine ⟨?_, a2, a3⟩
    show upd P.1 p.toNatClampNeg (nI y) q = upd Pm.1 p.toNatClampNeg (nI y) q
    by_cases e : q = p.toNatClampNeg
    · rw [e, upd_eq, upd_eq]
    · rw [upd_ne e, upd_ne e, a1]
theorem rS_add {k o x : Int32} (h : rS S Sm) (hl : S.2.2.2.2.2.1 < 9) (hx : ¬ (x < 0 ∨ 999 < x)) : rS (loadAdd S k o x) (loadAdd Sm k o x) := by
  obtain ⟨⟨h1, h2, h3⟩, h4, h5⟩ := h
  have ev : ∃ v, x = nI v ∧ v ≤ 999 := by
    obtain ⟨v, a1, a2⟩ := nI_of2 (x := x) (M := 999) (n := 999) (by decide) (fun z => hx (Or.inl z)) (Int32.not_lt.mp (fun z => hx (Or.inr z)))
    exact ⟨v, a2, a1⟩
  have hx0 : (loadAdd S k o x).2.2.2.2.2.1 = S.2.2.2.2.2.1 + 1 := rfl
  refine ⟨⟨by show S.2.2.2.2.2.1 + 1 = Sm.2.2.2.2.2.1 + 1; rw [h1], h2, fun i hi => ?_⟩, by rw [hx0]; omega, fun i hi => ?_⟩
  · rw [hx0] at hi
    show upd S.1 S.2.2.2.2.2.1 k i = upd Sm.1 Sm.2.2.2.2.2.1 k i ∧ upd S.2.1 S.2.2.2.2.2.1 o i = upd Sm.2.1 Sm.2.2.2.2.2.1 o i ∧ upd S.2.2.1 S.2.2.2.2.2.1 x i = upd Sm.2.2.1 Sm.2.2.2.2.2.1 x i
    rw [← h1]
    by_cases e : i = S.2.2.2.2.2.1
    · subst e; simp only [upd_eq, and_self]
    · rw [upd_ne e, upd_ne e, upd_ne e, upd_ne e, upd_ne e, upd_ne e]
      exact h3 i (by omega)
  · rw [hx0] at hi
    show ∃ v, upd S.2.2.1 S.2.2.2.2.2.1 x i = nI v ∧ v ≤ 999
    by_cases e : i = S.2.2.2.2.2.1
    · subst e; rw [upd_eq]; exact ev
    · rw [upd_ne e]; exact h5 i (by omega)
theorem rC_add {k o p m v s : Int32} (h : rC Cc Ccm) (hl : Cc.2.2.2.2.2.2.2 < 20) : rC (courtAdd Cc k o p m v s) (courtAdd Ccm k o p m v s) := by
  obtain ⟨⟨h1, h3⟩, h4⟩ := h
  have hx0 : (courtAdd Cc k o p m v s).2.2.2.2.2.2.2 = Cc.2.2.2.2.2.2.2 + 1 := rfl
  refine ⟨⟨by show Cc.2.2.2.2.2.2.2 + 1 = Ccm.2.2.2.2.2.2.2 + 1; rw [h1], fun i hi => ?_⟩, by rw [hx0]; omega⟩
  rw [hx0] at hi
  show upd Cc.1 Cc.2.2.2.2.2.2.2 k i = upd Ccm.1 Ccm.2.2.2.2.2.2.2 k i ∧ upd Cc.2.1 Cc.2.2.2.2.2.2.2 o i = upd Ccm.2.1 Ccm.2.2.2.2.2.2.2 o i ∧ upd Cc.2.2.1 Cc.2.2.2.2.2.2.2 p i = upd Ccm.2.2.1 Ccm.2.2.2.2.2.2.2 p i ∧ upd Cc.2.2.2.1 Cc.2.2.2.2.2.2.2 m i = upd Ccm.2.2.2.1 Ccm.2.2.2.2.2.2.2 m i ∧ upd Cc.2.2.2.2.1 Cc.2.2.2.2.2.2.2 v i = upd Ccm.2.2.2.2.1 Ccm.2.2.2.2.2.2.2 v i ∧ upd Cc.2.2.2.2.2.1 Cc.2.2.2.2.2.2.2 s i = upd Ccm.2.2.2.2.2.1 Ccm.2.2.2.2.2.2.2 s i
  rw [← h1]
  by_cases e : i = Cc.2.2.2.2.2.2.2
  · subst e; simp only [upd_eq, and_self]
  · rw [upd_ne e, upd_ne e, upd_ne e, upd_ne e, upd_ne e, upd_ne e, upd_ne e, upd_ne e, upd_ne e, upd_ne e, upd_ne e, upd_ne e]
    exact h3 i (by omega)
theorem rD_con {p x : Int32} (h : rD P D Dm) (hP : pOk P) (hp : perB P p = true) (hl : D.2.2.2 < 10) : rD P (upd D.1 D.2.2.2 p, upd D.2.1 D.2.2.2 x, D.2.2.1, D.2.2.2 + 1) (upd Dm.1 Dm.2.2.2 p, upd Dm.2.1 Dm.2.2.2 x, Dm.2.2.1, Dm.2.2.2 + 1) := by
  obtain ⟨h1, h2, h3, h4, h5⟩ := h
  obtain ⟨q, e1, e2, -⟩ := perI hP hp
  refine ⟨by show Dm.2.2.2 + 1 = D.2.2.2 + 1; rw [h1], ⟨by show D.2.2.2 + 1 ≤ 10; omega, fun i hi => ?_⟩, fun i hi => ?_, h4, h5⟩
  · have hi : i < D.2.2.2 + 1 := hi
    show ∃ q, upd D.1 D.2.2.2 p i = nI q ∧ q < P.2.2.2.2.2.2
    by_cases e : i = D.2.2.2
    · subst e; rw [upd_eq]; exact ⟨q, e1, e2⟩
    · rw [upd_ne e]; exact h2.2 i (by omega)
  · have hi : i < D.2.2.2 + 1 := hi
    show upd Dm.1 Dm.2.2.2 p i = upd D.1 D.2.2.2 p i ∧ upd Dm.2.1 Dm.2.2.2 x i = upd D.2.1 D.2.2.2 x i
    rw [h1]
    by_cases e : i = D.2.2.2
    · subst e; simp only [upd_eq, and_self]
    · rw [upd_ne e, upd_ne e, upd_ne e, upd_ne e]; exact h3 i (by omega)
theorem con_lt {x : Int32} (h : dNm D P.2.2.2.2.2.2) (hc : conB D x = true) : x.toNatClampNeg < D.2.2.2 := by
  obtain ⟨q, e1, e2⟩ := inI (by have := h.1; omega) (of_decide_eq_true hc)
  rw [e1, nI_clamp (by have := h.1; omega)]; exact e2
theorem deb_m {i u : Int32} (h : rD P D Dm) (hP : pOk P) (hc : conB D i = true) : debF Dm i.toNatClampNeg u = debF D i.toNatClampNeg u ∧ Dm.1 i.toNatClampNeg = D.1 i.toNatClampNeg ∧ (D.1 i.toNatClampNeg).toNatClampNeg < P.2.2.2.2.2.2 := by
  obtain ⟨h1, h2, h3, h4, h5⟩ := h
  have hi := con_lt h2 hc
  obtain ⟨q, a1, a2⟩ := h2.2 _ hi
  have a3 : (D.1 i.toNatClampNeg).toNatClampNeg = q := by rw [a1, nI_clamp (by have := hP.1; omega)]
  refine ⟨?_, (h3 _ hi).1, by rw [a3]; exact a2⟩
  unfold debF
  rw [(h3 _ hi).1, (h3 _ hi).2, h4 _ (by rw [a3]; exact a2)]
theorem rD_burn {v : Int64} {j : Nat} (h : rD P D Dm) (hj : j < P.2.2.2.2.2.2) : rD P (D.1, D.2.1, vp_updL D.2.2.1 j v, D.2.2.2) (Dm.1, Dm.2.1, vp_updL Dm.2.2.1 j v, Dm.2.2.2) := by
  obtain ⟨h1, h2, h3, h4, h5⟩ := h
  refine ⟨h1, h2, h3, fun p hp => ?_, fun p hp h30 => ?_⟩
  · show (if p = j then v else Dm.2.2.1 p) = (if p = j then v else D.2.2.1 p)
    rw [h4 p hp]
  · show (if p = j then v else D.2.2.1 p) = 0
    rw [if_neg (by omega)]
    exact h5 p hp h30
theorem rD_ren {i p : Int32} (h : rD P D Dm) (hP : pOk P) (hp : perB P p = true) : rD P (upd D.1 i.toNatClampNeg p, D.2) (upd Dm.1 i.toNatClampNeg p, Dm.2) := by
  obtain ⟨h1, h2, h3, h4, h5⟩ := h
  obtain ⟨q, e1, e2, -⟩ := perI hP hp
  refine ⟨h1, ⟨h2.1, fun j hj => ?_⟩, fun j hj => ⟨?_, (h3 j hj).2⟩, h4, h5⟩
  · show ∃ q, upd D.1 i.toNatClampNeg p j = nI q ∧ q < P.2.2.2.2.2.2
    by_cases e : j = i.toNatClampNeg
    · rw [e, upd_eq]; exact ⟨q, e1, e2⟩
    · rw [upd_ne e]; exact h2.2 j hj
  · show upd Dm.1 i.toNatClampNeg p j = upd D.1 i.toNatClampNeg p j
    by_cases e : j = i.toNatClampNeg
    · rw [e, upd_eq, upd_eq]
    · rw [upd_ne e, upd_ne e]; exact (h3 j hj).1
end REL2

