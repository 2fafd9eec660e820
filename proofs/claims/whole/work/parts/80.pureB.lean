/-! ===== FIRST: places settled in the order of their days, on both sides ===== -/
def gEd (R : RT) (n : Nat) : Prop := ∀ r, r < R.2.2.2.2.2.2.2 → ∃ a b, R.1 r = nI a ∧ R.2.1 r = nI b ∧ a < n ∧ b < n ∧ a ≠ b
theorem gEd_r {R : RT} {n : Nat} (h : gEd R n) : rEnd R n := fun r hr => by
  obtain ⟨a, b, h1, h2, h3, h4, -⟩ := h r hr
  exact ⟨a, b, h1, h2, h3, h4⟩
def dyI (v : Int32) : Prop := v.toInt = 1000000 ∨ (0 ≤ v.toInt ∧ v.toInt ≤ 1059)
def cmOk (cm : Nat → Int32 → Int32) (rc : Nat) : Prop := ∀ r, r < rc → ∀ v : Int32, 0 ≤ v.toInt → (cm r v).toInt = 1000000 ∨ (v.toInt < (cm r v).toInt ∧ (cm r v).toInt ≤ 1059)
def fd1 (R : RT) (cm : Nat → Int32 → Int32) (s : Nat) (W : WT) (r : Nat) : WT := if acr R r (nI s) = -1 ∨ ¬ W.2.2.2.1 (acr R r (nI s)).toNatClampNeg = 0 then W else offer W (acr R r (nI s)).toNatClampNeg (nI r) (cm r (W.1 s))
def go1 (T : RT) (cm : Nat → Int32 → Int32) (s : Nat) (ea : Nat → Int32) (r : Nat) : Nat → Int32 := relS (cm r) (T.2.1 r) (T.1 r) s (relS (cm r) (T.1 r) (T.2.1 r) s ea)
theorem nI_inj {a b : Nat} (ha : a < 2 ^ 31) (hb : b < 2 ^ 31) (h : nI a = nI b) : a = b := Classical.byContradiction (fun z => nI_ne z ha hb h)
theorem acr_sym {R : RT} {n : Nat} (h : gEd R n) (hn : n ≤ 8) {r : Nat} (hr : r < R.2.2.2.2.2.2.2) {s y : Nat} (hs : s < 8) (hy : y < 8) (e : acr R r (nI s) = nI y) : acr R r (nI y) = nI s ∧ s < n ∧ y < n ∧ s ≠ y := by
  obtain ⟨a, b, h1, h2, ha, hb, hab⟩ := h r hr
  unfold acr at e ⊢
  rw [h1, h2] at e ⊢
  by_cases c1 : nI a = nI s
  · rw [if_pos c1] at e
    have e1 := nI_inj (by omega) (by omega) c1
    have e2 := nI_inj (by omega) (by omega) e
    subst e1 e2
    rw [if_neg (nI_ne hab (by omega) (by omega)), if_pos rfl]
    exact ⟨rfl, ha, hb, hab⟩
  · rw [if_neg c1] at e
    by_cases c2 : nI b = nI s
    · rw [if_pos c2] at e
      have e1 := nI_inj (by omega) (by omega) c2
      have e2 := nI_inj (by omega) (by omega) e
      subst e1 e2
      rw [if_pos rfl]
      exact ⟨rfl, hb, ha, fun z => hab z.symm⟩
    · rw [if_neg c2] at e
      exact absurd e.symm (nI_nm1 (by omega))
theorem go1_c {R T : RT} {n : Nat} (h : gEd R n) (hn : n ≤ 8) {r : Nat} (hr : r < R.2.2.2.2.2.2.2) (t1 : R.1 r = T.1 r) (t2 : R.2.1 r = T.2.1 r) {s : Nat} (hs : s < n) (cm : Nat → Int32 → Int32) (ea : Nat → Int32) :
    (acr R r (nI s) = -1 ∧ go1 T cm s ea r = ea) ∨ ∃ y, acr R r (nI s) = nI y ∧ y < n ∧ y ≠ s ∧ go1 T cm s ea r = upd ea y (mnI (ea y) (cm r (ea s))) := by
  obtain ⟨a, b, h1, h2, ha, hb, hab⟩ := h r hr
  unfold acr go1 relS
  rw [← t1, ← t2, h1, h2, nI_clamp (by omega), nI_clamp (by omega)]
  by_cases c1 : nI a = nI s
  · have e1 := nI_inj (by omega) (by omega) c1
    subst e1
    refine Or.inr ⟨b, if_pos rfl, hb, fun z => hab z.symm, ?_⟩
    rw [if_neg (nI_ne (fun z => hab z.symm) (by omega) (by omega)), if_pos rfl]
  · by_cases c2 : nI b = nI s
    · have e1 := nI_inj (by omega) (by omega) c2
      subst e1
      refine Or.inr ⟨a, by rw [if_neg c1, if_pos rfl], ha, hab, ?_⟩
      rw [if_pos rfl, if_neg c1]
    · refine Or.inl ⟨by rw [if_neg c1, if_neg c2], ?_⟩
      rw [if_neg c2, if_neg c1]
/-- the road by which a place is come to: what is told of it when the settled places u (of s only the roads below k) have made their offers -/
def byP (R : RT) (cm : Nat → Int32 → Int32) (n s k : Nat) (W : WT) (j : Nat) : Prop :=
  (∀ u r, u < n → r < R.2.2.2.2.2.2.2 → ¬ W.2.2.2.1 u = 0 → (u = s → r < k) → acr R r (nI u) = nI j → (W.1 j).toInt ≤ (cm r (W.1 u)).toInt) ∧
  ((W.1 j).toInt ≠ 1000000 → ∃ r0 u0, W.2.2.1 j = nI r0 ∧ r0 < R.2.2.2.2.2.2.2 ∧ u0 < n ∧ ¬ W.2.2.2.1 u0 = 0 ∧ acr R r0 (nI u0) = nI j ∧ cm r0 (W.1 u0) = W.1 j ∧
    ∀ u r, u < n → r < R.2.2.2.2.2.2.2 → ¬ W.2.2.2.1 u = 0 → (u = s → r < k) → acr R r (nI u) = nI j → cm r (W.1 u) = W.1 j → r0 ≤ r)
def FI (R : RT) (cm : Nat → Int32 → Int32) (n x s k : Nat) (st : Nat → Int32) (W : WT) (ea : Nat → Int32) : Prop :=
  (∀ j, j < 8 → W.1 j = ea j) ∧ (∀ j, j < n → dyI (W.1 j)) ∧ W.2.2.2.1 = st ∧ (∀ j, j < n → ¬ st j = 0 → (W.1 j).toInt ≤ (W.1 s).toInt) ∧ (∀ j, j < n → st j = 0 → (W.1 s).toInt ≤ (W.1 j).toInt) ∧
  (W.1 s).toInt ≠ 1000000 ∧ (∀ j, j < n → j ≠ x → byP R cm n s k W j) ∧ W.2.2.1 x = -1 ∧ (∀ j, n ≤ j → W.2.2.1 j = W.2.2.1 j)
theorem FI_step {R T : RT} {cm cm' : Nat → Int32 → Int32} {n x s k : Nat} {st : Nat → Int32} {W : WT} {ea : Nat → Int32} (hg : gEd R n) (hn : n ≤ 8) (hk : k < R.2.2.2.2.2.2.2) (hk16 : R.2.2.2.2.2.2.2 ≤ 16) (t1 : R.1 k = T.1 k) (t2 : R.2.1 k = T.2.1 k) (hcm : cmOk cm R.2.2.2.2.2.2.2) (hcc : ∀ v : Int32, 0 ≤ v.toInt → cm' k v = cm k v) (hs : s < n) (hss : ¬ st s = 0) (hsx : ¬ st x = 0)
    (h : FI R cm n x s k st W ea) : FI R cm n x s (k + 1) st (fd1 R cm s W k) (go1 T cm' s ea k) := by
  obtain ⟨g1, g2, g3, g4, g5, g6, g7, g8, -⟩ := h
  have hs0 : 0 ≤ (W.1 s).toInt := by
    rcases g2 s hs with z | z
    · omega
    · exact z.1
  have hsn := g6
  have hcs := hcm k hk (W.1 s) hs0
  have ec : cm' k (ea s) = cm k (W.1 s) := by rw [← g1 s (by omega)]; exact hcc _ hs0
  rcases go1_c hg hn hk t1 t2 hs cm' ea with ⟨e1, e2⟩ | ⟨y, e1, hy, hys, e2⟩
  · rw [e2]
    unfold fd1
    rw [if_pos (Or.inl e1)]
    refine ⟨g1, g2, g3, g4, g5, g6, fun j hj hjx => ?_, g8, fun _ _ => rfl⟩
    obtain ⟨p1, p2⟩ := g7 j hj hjx
    have wk : ∀ u r, (u = s → r < k + 1) → acr R r (nI u) = nI j → (u = s → r < k) := fun u r h1 h2 h3 => by
      have := h1 h3
      by_cases e : r = k
      · subst e h3; rw [e1] at h2; exact absurd h2.symm (nI_nm1 (by omega))
      · omega
    refine ⟨fun u r hu hr h1 h2 h3 => p1 u r hu hr h1 (wk u r h2 h3) h3, fun z => ?_⟩
    obtain ⟨r0, u0, q1, q2, q3, q4, q5, q6, q7⟩ := p2 z
    exact ⟨r0, u0, q1, q2, q3, q4, q5, q6, fun u r hu hr h1 h2 h3 h4 => q7 u r hu hr h1 (wk u r h2 h3) h3 h4⟩
  · rw [e2, ec]
    unfold fd1
    rw [e1, nI_clamp (by omega)]
    have only : ∀ u r j, u < n → j < n → (u = s → r < k + 1) → acr R r (nI u) = nI j → (u = s → r < k) ∨ (u = s ∧ r = k ∧ j = y) := fun u r j hu hj h1 h2 => by
      by_cases e : u = s
      · by_cases e9 : r = k
        · subst e e9
          rw [e1] at h2
          exact Or.inr ⟨rfl, rfl, (nI_inj (by omega) (by omega) h2).symm⟩
        · have := h1 e
          exact Or.inl (fun _ => by omega)
      · exact Or.inl (fun z => absurd z e)
    by_cases hsy : W.2.2.2.1 y = 0
    · rw [if_neg (fun z => z.elim (fun z => nI_nm1 (by omega) z) (fun z => z hsy))]
      have hyst : st y = 0 := by rw [← g3]; exact hsy
      have hyx : y ≠ x := fun z => hsx (by rw [← z]; exact hyst)
      obtain ⟨p1, p2⟩ := g7 y hy hyx
      have hle := g5 y hy hyst
      have hdy := g2 y hy
      have une : ∀ u, ¬ st u = 0 → u ≠ y := fun u h1 h2 => h1 (by rw [h2]; exact hyst)
      unfold offer
      by_cases ho : offT W y (nI k) (cm k (W.1 s)) = true
      · rw [if_pos ho]
        have hoff : (cm k (W.1 s)).toInt < (W.1 y).toInt ∨ ((cm k (W.1 s)).toInt = (W.1 y).toInt ∧ (W.1 y).toInt ≠ 1000000 ∧ nI k < W.2.2.1 y) := by
          unfold offT at ho
          simp only [Bool.or_eq_true, Bool.and_eq_true, decide_eq_true_eq] at ho
          rcases ho with ho | ⟨o1, o2, o3⟩
          · exact Or.inl (Int32.lt_iff_toInt_lt.mp ho)
          · exact Or.inr ⟨by rw [o1], fun z => o2 (I_eq (by rw [o1, z, I_N])), o3⟩
        have hne : (cm k (W.1 s)).toInt ≠ 1000000 := by
          rcases hoff with z | z
          · rcases hdy with q | q <;> omega
          · omega
        have hdc : dyI (cm k (W.1 s)) := by
          rcases hcs with z | z
          · exact absurd z hne
          · exact Or.inr ⟨Int.le_of_lt (Int.lt_of_le_of_lt hs0 z.1), z.2⟩
        have hmin : (mnI (ea y) (cm k (W.1 s))).toInt = (cm k (W.1 s)).toInt := by
          rw [mnI_I, ← g1 y (by omega)]
          split
          · rfl
          · omega
        have hw : ∀ u, u ≠ y → upd W.1 y (cm k (W.1 s)) u = W.1 u := fun u hu => upd_ne hu
        refine ⟨fun j hj => ?_, fun j hj => ?_, g3, fun j hj hst => ?_, fun j hj hst => ?_, ?_, fun j hj hjx => ?_, ?_, fun _ _ => rfl⟩
        · show upd W.1 y (cm k (W.1 s)) j = upd ea y (mnI (ea y) (cm k (W.1 s))) j
          by_cases e : j = y
          · subst e; rw [upd_eq, upd_eq]; exact (I_eq hmin).symm
          · rw [upd_ne e, upd_ne e]; exact g1 j hj
        · show dyI (upd W.1 y (cm k (W.1 s)) j)
          by_cases e : j = y
          · subst e; rw [upd_eq]; exact hdc
          · rw [upd_ne e]; exact g2 j hj
        · show (upd W.1 y (cm k (W.1 s)) j).toInt ≤ (upd W.1 y (cm k (W.1 s)) s).toInt
          rw [hw s (une s hss), hw j (une j hst)]
          exact g4 j hj hst
        · show (upd W.1 y (cm k (W.1 s)) s).toInt ≤ (upd W.1 y (cm k (W.1 s)) j).toInt
          rw [hw s (une s hss)]
          by_cases e : j = y
          · subst e; rw [upd_eq]; omega
          · rw [hw j e]; exact g5 j hj hst
        · show (upd W.1 y (cm k (W.1 s)) s).toInt ≠ 1000000
          rw [hw s (une s hss)]; exact hsn
        · by_cases e : j = y
          · subst e
            refine ⟨fun u r hu hr h1 h2 h3 => ?_, fun _ => ⟨k, s, upd_eq _ _ _, hk, hs, ?_, e1, ?_, fun u r hu hr h1 h2 h3 h4 => ?_⟩⟩
            · have h1' : ¬ st u = 0 := by rw [← g3]; exact h1
              show (upd W.1 j (cm k (W.1 s)) j).toInt ≤ (cm r (upd W.1 j (cm k (W.1 s)) u)).toInt
              rw [upd_eq, hw u (une u h1')]
              rcases only u r j hu hj h2 h3 with z | ⟨z1, z2, -⟩
              · have := p1 u r hu hr h1 z h3
                omega
              · subst z1 z2; exact Int.le_refl _
            · show ¬ W.2.2.2.1 s = 0
              rw [g3]; exact hss
            · show cm k (upd W.1 j (cm k (W.1 s)) s) = upd W.1 j (cm k (W.1 s)) j
              rw [upd_eq, hw s (une s hss)]
            · have h1' : ¬ st u = 0 := by rw [← g3]; exact h1
              have h4' : cm r (upd W.1 j (cm k (W.1 s)) u) = upd W.1 j (cm k (W.1 s)) j := h4
              rw [upd_eq, hw u (une u h1')] at h4'
              rcases only u r j hu hj h2 h3 with z | ⟨z1, z2, -⟩
              · have q0 := p1 u r hu hr h1 z h3
                rw [h4'] at q0
                rcases hoff with q | ⟨q1, q2, q3⟩
                · omega
                · obtain ⟨r0, u0, a1, a2, a3, a4, a5, a6, a7⟩ := p2 q2
                  have := a7 u r hu hr h1 z h3 (h4'.trans (I_eq q1))
                  rw [a1, Int32.lt_iff_toInt_lt, nI_toInt (by omega), nI_toInt (by omega)] at q3
                  omega
              · omega
          · obtain ⟨b1, b2⟩ := g7 j hj hjx
            have only' : ∀ u r, u < n → (u = s → r < k + 1) → acr R r (nI u) = nI j → (u = s → r < k) := fun u r hu h2 h3 => (only u r j hu hj h2 h3).elim id (fun z => absurd z.2.2 e)
            refine ⟨fun u r hu hr h1 h2 h3 => ?_, fun z => ?_⟩
            · have h1' : ¬ st u = 0 := by rw [← g3]; exact h1
              show (upd W.1 y (cm k (W.1 s)) j).toInt ≤ (cm r (upd W.1 y (cm k (W.1 s)) u)).toInt
              rw [hw j e, hw u (une u h1')]
              exact b1 u r hu hr h1 (only' u r hu h2 h3) h3
            · have z' : (W.1 j).toInt ≠ 1000000 := by
                have : (upd W.1 y (cm k (W.1 s)) j).toInt ≠ 1000000 := z
                rw [hw j e] at this; exact this
              obtain ⟨r0, u0, a1, a2, a3, a4, a5, a6, a7⟩ := b2 z'
              have a4' : ¬ st u0 = 0 := by rw [← g3]; exact a4
              refine ⟨r0, u0, ?_, a2, a3, a4, a5, ?_, fun u r hu hr h1 h2 h3 h4 => ?_⟩
              · show upd W.2.2.1 y (nI k) j = nI r0
                rw [upd_ne e]; exact a1
              · show cm r0 (upd W.1 y (cm k (W.1 s)) u0) = upd W.1 y (cm k (W.1 s)) j
                rw [hw j e, hw u0 (une u0 a4')]; exact a6
              · have h1' : ¬ st u = 0 := by rw [← g3]; exact h1
                have h4' : cm r (upd W.1 y (cm k (W.1 s)) u) = upd W.1 y (cm k (W.1 s)) j := h4
                rw [hw j e, hw u (une u h1')] at h4'
                exact a7 u r hu hr h1 (only' u r hu h2 h3) h3 h4'
        · show upd W.2.2.1 y (nI k) x = -1
          rw [upd_ne (fun z => hyx z.symm)]; exact g8
      · rw [if_neg ho]
        have hge : (W.1 y).toInt ≤ (cm k (W.1 s)).toInt := by
          refine Int.not_lt.mp (fun z => ho ?_)
          unfold offT
          rw [decide_eq_true (Int32.lt_iff_toInt_lt.mpr z), Bool.true_or]
        have hmin : mnI (ea y) (cm k (W.1 s)) = ea y := by
          refine I_eq ?_
          rw [mnI_I, ← g1 y (by omega)]
          split
          · omega
          · rfl
        refine ⟨fun j hj => ?_, g2, g3, g4, g5, g6, fun j hj hjx => ?_, g8, fun _ _ => rfl⟩
        · rw [hmin]
          by_cases e : j = y
          · subst e; rw [upd_eq]; exact g1 j hj
          · rw [upd_ne e]; exact g1 j hj
        · obtain ⟨b1, b2⟩ := g7 j hj hjx
          refine ⟨fun u r hu hr h1 h2 h3 => ?_, fun z => ?_⟩
          · rcases only u r j hu hj h2 h3 with z | ⟨z1, z2, z3⟩
            · exact b1 u r hu hr h1 z h3
            · subst z1 z2 z3; exact hge
          · obtain ⟨r0, u0, a1, a2, a3, a4, a5, a6, a7⟩ := b2 z
            refine ⟨r0, u0, a1, a2, a3, a4, a5, a6, fun u r hu hr h1 h2 h3 h4 => ?_⟩
            rcases only u r j hu hj h2 h3 with q | ⟨z1, z2, z3⟩
            · exact a7 u r hu hr h1 q h3 h4
            · subst z1 z2 z3
              refine Nat.not_lt.mp (fun q => ho ?_)
              unfold offT
              rw [decide_eq_true h4, Bool.true_and, h4, decide_eq_true (p := ¬ _ = _) (fun y9 => z (by rw [y9]; exact I_N)), Bool.true_and, a1, decide_eq_true (nI_lt q (by omega)), Bool.or_true]
    · rw [if_pos (Or.inr hsy)]
      have hyst : ¬ st y = 0 := by rw [← g3]; exact hsy
      have hle := g4 y hy hyst
      have hlt : (W.1 y).toInt < (cm k (W.1 s)).toInt := by
        rcases hcs with z | z
        · rcases g2 s hs with q | q <;> omega
        · omega
      have hmin : mnI (ea y) (cm k (W.1 s)) = ea y := by
        refine I_eq ?_
        rw [mnI_I, ← g1 y (by omega)]
        split
        · omega
        · rfl
      refine ⟨fun j hj => ?_, g2, g3, g4, g5, g6, fun j hj hjx => ?_, g8, fun _ _ => rfl⟩
      · rw [hmin]
        by_cases e : j = y
        · subst e; rw [upd_eq]; exact g1 j hj
        · rw [upd_ne e]; exact g1 j hj
      · obtain ⟨b1, b2⟩ := g7 j hj hjx
        refine ⟨fun u r hu hr h1 h2 h3 => ?_, fun z => ?_⟩
        · rcases only u r j hu hj h2 h3 with z | ⟨z1, z2, z3⟩
          · exact b1 u r hu hr h1 z h3
          · subst z1 z2 z3; omega
        · obtain ⟨r0, u0, a1, a2, a3, a4, a5, a6, a7⟩ := b2 z
          refine ⟨r0, u0, a1, a2, a3, a4, a5, a6, fun u r hu hr h1 h2 h3 h4 => ?_⟩
          rcases only u r j hu hj h2 h3 with q | ⟨z1, z2, z3⟩
          · exact a7 u r hu hr h1 q h3 h4
          · subst z1 z2 z3
            rw [h4] at hlt
            omega

