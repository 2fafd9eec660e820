/-! ===== FIRST: the rounds ===== -/
def selJ (st le : Nat → Int32) (pa ea : Nat → Int32) (i : Nat) : Prop :=
  (sooF st le i = (-1, 1000000) ∧ selM pa ea i = -1 ∧ ∀ j, j < i → st j = 0 → (le j).toInt = 1000000) ∨
  ∃ s, s < i ∧ sooF st le i = (nI s, le s) ∧ selM pa ea i = nI s ∧ st s = 0 ∧ (le s).toInt ≠ 1000000 ∧ ∀ j, j < i → st j = 0 → (le s).toInt ≤ (le j).toInt
theorem selJ_all {st le pa ea : Nat → Int32} {n : Nat} (hn : n ≤ 8) (h1 : ∀ j, j < 8 → le j = ea j) (h2 : ∀ j, j < 8 → st j = pa j) (h3 : ∀ j, j < n → dyI (le j)) : ∀ i, i ≤ n → selJ st le pa ea i
  | 0, _ => Or.inl ⟨rfl, rfl, fun j hj => absurd hj (Nat.not_lt_zero j)⟩
  | i + 1, hi => by
    have hd := h3 i (by omega)
    have e1 := h1 i (by omega)
    have e2 := h2 i (by omega)
    rcases selJ_all hn h1 h2 h3 i (by omega) with ⟨a1, a2, a3⟩ | ⟨s, b0, b1, b2, b3, b4, b5⟩
    · by_cases c : st i = 0 ∧ (le i).toInt ≠ 1000000
      · refine Or.inr ⟨i, by omega, ?_, ?_, c.1, c.2, fun j hj hs => ?_⟩
        · rw [sooF, a1, if_pos ⟨c.1, Int32.lt_iff_toInt_lt.mpr (by rw [I_N]; rcases hd with z | z; exact absurd z c.2; omega)⟩]
        · rw [selM, if_pos ⟨by rw [← e2]; exact c.1, fun z => c.2 (by rw [e1, z]; exact I_N), Or.inl a2⟩]
        · by_cases e : j = i
          · subst e; exact Int.le_refl _
          · rw [a3 j (by omega) hs]
            rcases hd with z | z <;> omega
      · refine Or.inl ⟨?_, ?_, fun j hj hs => ?_⟩
        · rw [sooF, a1, if_neg (fun z => c ⟨z.1, fun y => by
            have := Int32.lt_iff_toInt_lt.mp z.2
            rw [I_N] at this
            omega⟩)]
        · rw [selM, if_neg (fun z => c ⟨by rw [e2]; exact z.1, fun y => z.2.1 (I_eq (by rw [← e1, y, I_N]))⟩)]
          exact a2
        · by_cases e : j = i
          · subst e
            exact Classical.byContradiction (fun z => c ⟨hs, z⟩)
          · exact a3 j (by omega) hs
    · have hds := h3 s (by omega)
      have es := h1 s (by omega)
      by_cases c : st i = 0 ∧ (le i).toInt < (le s).toInt
      · refine Or.inr ⟨i, by omega, ?_, ?_, c.1, by rcases hds with z | z <;> omega, fun j hj hs => ?_⟩
        · rw [sooF, b1, if_pos ⟨c.1, Int32.lt_iff_toInt_lt.mpr c.2⟩]
        · have hne : ¬ ea i = 1000000 := fun z => by
            have h9 : (le i).toInt = 1000000 := by rw [e1, z, I_N]
            rcases hds with q | q <;> omega
          rw [selM, b2, nI_clamp (by omega), if_pos ⟨by rw [← e2]; exact c.1, hne, Or.inr (by rw [← e1, ← es]; exact Int32.lt_iff_toInt_lt.mpr c.2)⟩]
        · by_cases e : j = i
          · subst e; exact Int.le_refl _
          · have := b5 j (by omega) hs
            omega
      · refine Or.inr ⟨s, by omega, ?_, ?_, b3, b4, fun j hj hs => ?_⟩
        · rw [sooF, b1, if_neg (fun z => c ⟨z.1, Int32.lt_iff_toInt_lt.mp z.2⟩)]
        · rw [selM, b2, nI_clamp (by omega), if_neg (fun z => ?_)]
          rcases z.2.2 with q | q
          · exact nI_nm1 (by omega) q
          · exact c ⟨by rw [e2]; exact z.1, by rw [← e1, ← es] at q; exact Int32.lt_iff_toInt_lt.mp q⟩
        · by_cases e : j = i
          · subst e
            exact Int.not_lt.mp (fun z => c ⟨hs, z⟩)
          · exact b5 j (by omega) hs
def FJ (R : RT) (cm : Nat → Int32 → Int32) (n x : Nat) (W : WT) (e : (Nat → Int32) × (Nat → Int32)) : Prop :=
  (∀ j, j < 8 → W.1 j = e.1 j) ∧ (∀ j, j < 8 → W.2.2.2.1 j = e.2 j) ∧ (∀ j, j < n → dyI (W.1 j)) ∧ (∀ j i, j < n → i < n → ¬ W.2.2.2.1 j = 0 → W.2.2.2.1 i = 0 → (W.1 j).toInt ≤ (W.1 i).toInt) ∧ (∀ j, j < n → ¬ W.2.2.2.1 j = 0 → (W.1 j).toInt ≠ 1000000) ∧
  (¬ W.2.2.2.1 x = 0 ∨ ∀ j, j < n → W.2.2.2.1 j = 0 ∧ (j ≠ x → (W.1 j).toInt = 1000000)) ∧ (∀ j, j < n → j ≠ x → byP R cm n n 0 W j) ∧ W.2.2.1 x = -1
def FIN (n : Nat) (W : WT) : Prop := ∀ j, j < n → W.2.2.2.1 j = 0 → (W.1 j).toInt = 1000000
theorem FJ_round {R T : RT} {cm cm' : Nat → Int32 → Int32} {n x s : Nat} {W : WT} {e : (Nat → Int32) × (Nat → Int32)} (hg : gEd R n) (hn : n ≤ 8) (hr : rAg R T) (hrc : R.2.2.2.2.2.2.2 ≤ 16) (hcm : cmOk cm R.2.2.2.2.2.2.2) (hcc : ∀ r, r < R.2.2.2.2.2.2.2 → ∀ v : Int32, 0 ≤ v.toInt → cm' r v = cm r v) (hx : x < n) (h : FJ R cm n x W e)
    (hs : s < n) (h3 : W.2.2.2.1 s = 0) (h4 : (W.1 s).toInt ≠ 1000000) (h5 : ∀ j, j < n → W.2.2.2.1 j = 0 → (W.1 s).toInt ≤ (W.1 j).toInt) :
    FJ R cm n x (foldF (fd1 R cm s) 0 R.2.2.2.2.2.2.2 (wSet W s)) (foldF (go1 T cm' s) 0 R.2.2.2.2.2.2.2 e.1, upd e.2 s 1) ∧ (foldF (fd1 R cm s) 0 R.2.2.2.2.2.2.2 (wSet W s)).2.2.2.1 = upd W.2.2.2.1 s 1 := by
  obtain ⟨f1, f2, f3, f4, f5, f6, f7, f8⟩ := h
  have hss : ¬ upd W.2.2.2.1 s 1 s = 0 := by rw [upd_eq]; decide
  have hsx : ¬ upd W.2.2.2.1 s 1 x = 0 := by
    by_cases e9 : x = s
    · subst e9; exact hss
    · rw [upd_ne e9]
      rcases f6 with z | z
      · exact z
      · exact absurd ((z s hs).2 (fun y => e9 y.symm)) h4
  have h0 : FI R cm n x s 0 (upd W.2.2.2.1 s 1) (wSet W s) e.1 := by
    refine ⟨f1, f3, rfl, fun j hj hst => ?_, fun j hj hst => ?_, h4, fun j hj hjx => ?_, f8, fun _ _ => rfl⟩
    · show (W.1 j).toInt ≤ (W.1 s).toInt
      by_cases e9 : j = s
      · subst e9; exact Int.le_refl _
      · rw [upd_ne e9] at hst
        exact f4 j s hj hs hst h3
    · show (W.1 s).toInt ≤ (W.1 j).toInt
      by_cases e9 : j = s
      · subst e9; exact absurd hst hss
      · rw [upd_ne e9] at hst
        exact h5 j hj hst
    · obtain ⟨p1, p2⟩ := f7 j hj hjx
      have un : ∀ u r : Nat, ¬ upd W.2.2.2.1 s 1 u = 0 → (u = s → r < 0) → ¬ W.2.2.2.1 u = 0 := fun u r h1 h2 => by
        by_cases e9 : u = s
        · exact absurd (h2 e9) (Nat.not_lt_zero r)
        · rw [upd_ne e9] at h1; exact h1
      refine ⟨fun u r hu hr' h1 h2 h9 => p1 u r hu hr' (un u r h1 h2) (fun z => absurd z (by omega)) h9, fun z => ?_⟩
      obtain ⟨r0, u0, a1, a2, a3, a4, a5, a6, a7⟩ := p2 z
      refine ⟨r0, u0, a1, a2, a3, ?_, a5, a6, fun u r hu hr' h1 h2 h9 h8 => a7 u r hu hr' (un u r h1 h2) (fun z => absurd z (by omega)) h9 h8⟩
      show ¬ upd W.2.2.2.1 s 1 u0 = 0
      by_cases e9 : u0 = s
      · subst e9; exact hss
      · rw [upd_ne e9]; exact a4
  have hF := foldF_r2 (g := fd1 R cm s) (h := go1 T cm' s) (I := fun k V ea => FI R cm n x s k (upd W.2.2.2.1 s 1) V ea) R.2.2.2.2.2.2.2 0 (wSet W s) e.1 h0 (fun V ea k _ hk hI => FI_step hg hn (by omega) hrc (hr.2 k (by omega)).1 (hr.2 k (by omega)).2.1 hcm (hcc k (by omega)) hs hss hsx hI)
  rw [Nat.zero_add] at hF
  obtain ⟨g1, g2, g3, g4, g5, g6, g7, g8, -⟩ := hF
  refine ⟨⟨g1, fun j hj => ?_, g2, fun j i hj hi hsj hsi => ?_, fun j hj hsj => ?_, Or.inl ?_, fun j hj hjx => ?_, g8⟩, g3⟩
  · rw [g3]
    show upd W.2.2.2.1 s 1 j = upd e.2 s 1 j
    by_cases e9 : j = s
    · subst e9; rw [upd_eq, upd_eq]
    · rw [upd_ne e9, upd_ne e9]; exact f2 j hj
  · rw [g3] at hsj hsi
    exact Int.le_trans (g4 j hj hsj) (g5 i hi hsi)
  · rw [g3] at hsj
    have a1 := g4 j hj hsj
    rcases g2 s hs with z | z
    · exact absurd z g6
    · omega
  · rw [g3]; exact hsx
  · obtain ⟨p1, p2⟩ := g7 j hj hjx
    refine ⟨fun u r hu hr' h1 _ h9 => p1 u r hu hr' h1 (fun _ => hr') h9, fun z => ?_⟩
    obtain ⟨r0, u0, a1, a2, a3, a4, a5, a6, a7⟩ := p2 z
    exact ⟨r0, u0, a1, a2, a3, a4, a5, a6, fun u r hu hr' h1 _ h9 h8 => a7 u r hu hr' h1 (fun _ => hr') h9 h8⟩
theorem FJ_run {P N : PT} {L M : LT} {R T : RT} {p n x : Nat} {mo : Int32} (hg : gEd R n) (hn : n ≤ 8) (hr : rAg R T) (hrc : R.2.2.2.2.2.2.2 ≤ 16) (hcm : cmOk (fun r => comeF P L R p r 1000) R.2.2.2.2.2.2.2) (hcc : ∀ r, r < R.2.2.2.2.2.2.2 → ∀ v : Int32, 0 ≤ v.toInt → mcome N M T p r (-1) mo v = comeF P L R p r 1000 v) (hx : x < n) :
    ∀ k W e, FJ R (fun r => comeF P L R p r 1000) n x W e → cnB (fun j => decide (W.2.2.2.1 j = 0)) n ≤ k → FJ R (fun r => comeF P L R p r 1000) n x (fdR P L R p n k W) (goK N M T p n (-1) mo k e) ∧ FIN n (fdR P L R p n k W)
  | 0, W, e, h, hk => ⟨h, fun j hj hs => by
    have := cnB_zero (by omega : cnB (fun j => decide (W.2.2.2.1 j = 0)) n = 0) j hj
    exact absurd hs (of_decide_eq_false this)⟩
  | k + 1, W, e, h, hk => by
    rw [fdR, goK]
    rcases selJ_all hn h.1 h.2.1 h.2.2.1 n (Nat.le_refl _) with ⟨a1, a2, a3⟩ | ⟨s, b0, b1, b2, b3, b4, b5⟩
    · rw [a1, a2, if_pos rfl, if_pos rfl]
      exact ⟨h, a3⟩
    · rw [b1, b2, if_neg (nI_nm1 (by omega)), if_neg (nI_nm1 (by omega)), nI_clamp (by omega), ← hr.1]
      obtain ⟨q1, q2⟩ := FJ_round (T := T) (cm' := fun r => mcome N M T p r (-1) mo) hg hn hr hrc hcm hcc hx h b0 b3 b4 b5
      refine FJ_run hg hn hr hrc hcm hcc hx k _ _ q1 ?_
      have := cnB_lt (f := fun j => decide (upd W.2.2.2.1 s 1 j = 0)) (g := fun j => decide (W.2.2.2.1 j = 0)) n (fun j _ hj => by
        have hj := of_decide_eq_true hj
        by_cases e9 : j = s
        · subst e9; rw [upd_eq] at hj; exact absurd hj (by decide)
        · rw [upd_ne e9] at hj; exact decide_eq_true hj) ⟨s, b0, decide_eq_true b3, by rw [upd_eq]; decide⟩
      show cnB (fun j => decide ((foldF (fd1 R (fun r => comeF P L R p r 1000) s) 0 R.2.2.2.2.2.2.2 (wSet W s)).2.2.2.1 j = 0)) n ≤ k
      rw [q2]
      omega
theorem cmF_bd {f : Int32 → Bool} {a : Int32} (ha : 1 ≤ a.toInt ∧ a.toInt ≤ 60) : ∀ m (d : Int32), m = (1000 - d.toInt).toNat → 0 ≤ d.toInt → (cmF f a m d).toInt = 1000000 ∨ (d.toInt < (cmF f a m d).toInt ∧ (cmF f a m d).toInt ≤ 1059)
  | 0, _, _, _ => Or.inl I_N
  | m + 1, d, hm, hd => by
    rw [cmF]
    split
    · rw [I_add (by omega) (by omega)]
      exact Or.inr (by omega)
    · have e1 : (d + 1).toInt = d.toInt + 1 := by
        rw [I_add (by rw [show (1 : Int32).toInt = 1 by decide]; omega) (by rw [show (1 : Int32).toInt = 1 by decide]; omega), show (1 : Int32).toInt = 1 by decide]
      rcases cmF_bd ha m (d + 1) (by omega) (by omega) with z | z
      · exact Or.inl z
      · exact Or.inr (by omega)
def rDy (R : RT) : Prop := ∀ r, r < R.2.2.2.2.2.2.2 → 1 ≤ (R.2.2.1 r).toInt ∧ (R.2.2.1 r).toInt ≤ 60
def lUn (L : LT) : Prop := ∀ i, i < L_n L → L.2.2.2.2.2.1 i ≤ 999
def rKd (R : RT) : Prop := ∀ r, r < R.2.2.2.2.2.2.2 → ∀ q, r * 3 ≤ q → q < r * 3 + rpN R r → ¬ R.2.2.2.2.2.1 q = -1
theorem come_ok {P : PT} {L : LT} {R : RT} {p : Nat} (hu : lUn L) (hd : rDy R) : cmOk (fun r => comeF P L R p r 1000) R.2.2.2.2.2.2.2 := fun r hr v hv => by
  show (comeF P L R p r 1000 v).toInt = 1000000 ∨ (v.toInt < (comeF P L R p r 1000 v).toInt ∧ (comeF P L R p r 1000 v).toInt ≤ 1059)
  rw [comeF_eq hu 1000 v (by omega)]
  exact cmF_bd (hd r hr) _ v rfl hv
/-- FIRST on both sides, with all that the tracing wants -/
theorem first_ag {P N : PT} {L M : LT} {R T : RT} (h : pAg P N) (hl : lAg L M) (hr : rAg R T) (hu : lUn L) (hdy : rDy R) (hkd : rKd R) (hrc : R.2.2.2.2.2.2.2 ≤ 16) {p n x : Nat} (hp : p < P.2.2.2.2.2.2) (hg : gEd R n) (hn : n ≤ 8) (hx : x < n) {mo d : Int32} (hd : 0 ≤ d.toInt) (hd9 : d.toInt ≤ 999) (W : WT) (ea pa : Nat → Int32) :
    FJ R (fun r => comeF P L R p r 1000) n x (findD P L R p n x d W) (goF N M T p n x (-1) mo d ea pa) ∧ FIN n (findD P L R p n x d W) := by
  refine FJ_run hg hn hr hrc (come_ok hu hdy) (fun r hr' v hv => (come_eq h hl hr hu hp hr' (hkd r hr') (Int32.le_iff_toInt_le.mpr (by rw [I_0]; exact hv))).symm) hx n _ _ ?_ (cnB_le _ _)
  have hle : ∀ j, j < 8 → upd (zf 1000000 W.1 8) x d j = upd (zf 1000000 ea 8) x d j := fun j hj => by
    by_cases e : j = x
    · subst e; rw [upd_eq, upd_eq]
    · rw [upd_ne e, upd_ne e, zf, zf, if_pos hj, if_pos hj]
  have hst : ∀ j, j < 8 → zf 0 W.2.2.2.1 8 j = 0 := fun j hj => by rw [zf, if_pos hj]
  have hlN : ∀ j, j < n → j ≠ x → upd (zf 1000000 W.1 8) x d j = 1000000 := fun j hj e => by rw [upd_ne e, zf, if_pos (by omega)]
  refine ⟨hle, fun j hj => ?_, fun j hj => ?_, fun j i hj hi hsj _ => ?_, fun j hj hsj => ?_, Or.inr (fun j hj => ⟨hst j (by omega), fun e => ?_⟩), fun j hj hjx => ⟨fun u r hu hr' h1 _ _ => ?_, fun z => ?_⟩, ?_⟩
  · show zf 0 W.2.2.2.1 8 j = zf 0 pa 8 j
    rw [hst j hj, zf, if_pos hj]
  · show dyI (upd (zf 1000000 W.1 8) x d j)
    by_cases e : j = x
    · subst e; rw [upd_eq]; exact Or.inr (by omega)
    · rw [hlN j hj e]; exact Or.inl I_N
  · exact absurd (hst j (by omega)) hsj
  · exact absurd (hst j (by omega)) hsj
  · show (upd (zf 1000000 W.1 8) x d j).toInt = 1000000
    rw [hlN j hj e]; exact I_N
  · exact absurd (hst u (by omega)) h1
  · have z' : (upd (zf 1000000 W.1 8) x d j).toInt ≠ 1000000 := z
    rw [hlN j hj hjx] at z'
    exact absurd I_N z'
  · show zf (-1) W.2.2.1 8 x = -1
    rw [zf, if_pos (by omega)]
/-! ===== the way itself ===== -/
theorem fstO_eq {P : Nat → Bool} {i : Nat} (hi : P i = true) : ∀ n s, s ≤ i → i < s + n → (∀ j, s ≤ j → j < i → P j = false) → fstO P s n = some i
  | 0, s, h1, h2, _ => absurd h2 (by omega)
  | n + 1, s, h1, h2, h3 => by
    rw [fstO]
    by_cases e : s = i
    · subst e; rw [if_pos hi]
    · rw [if_neg (by rw [h3 s (Nat.le_refl _) (by omega)]; decide)]
      exact fstO_eq hi n (s + 1) (by omega) (by omega) (fun j a b => h3 j (by omega) b)
theorem led_one {P N : PT} {L M : LT} {R T : RT} (h : pAg P N) (hl : lAg L M) (hr : rAg R T) (hu : lUn L) (hdy : rDy R) (hkd : rKd R) (hrc : R.2.2.2.2.2.2.2 ≤ 16) {p n x : Nat} (hp : p < P.2.2.2.2.2.2) (hg : gEd R n) (hn : n ≤ 8) {mo : Int32} {W : WT} {e : (Nat → Int32) × (Nat → Int32)}
    (hJ : FJ R (fun r => comeF P L R p r 1000) n x W e) (hF : FIN n W) {y : Nat} (hy : y < n) (hyx : y ≠ x) (hyN : (W.1 y).toInt ≠ 1000000) :
    ∃ r u, W.2.2.1 y = nI r ∧ r < R.2.2.2.2.2.2.2 ∧ u < n ∧ acr R r (nI y) = nI u ∧ (W.1 u).toInt < (W.1 y).toInt ∧ (W.1 u).toInt ≠ 1000000 ∧ fstO (rtP N M T p (-1) mo e.1 (nI y)) 0 T.2.2.2.2.2.2.2 = some r ∧ ldU N M T p (-1) mo e.1 y r = u := by
  obtain ⟨f1, f2, f3, f4, f5, f6, f7, f8⟩ := hJ
  obtain ⟨-, p2⟩ := f7 y hy hyx
  obtain ⟨r0, u0, a1, a2, a3, a4, a5, a6, a7⟩ := p2 hyN
  obtain ⟨s1, s2, s3, s4⟩ := acr_sym hg hn a2 (by omega) (by omega) a5
  have hu0 := f5 u0 a3 a4
  have h0 : 0 ≤ (W.1 u0).toInt := by
    rcases f3 u0 a3 with z | z
    · omega
    · exact z.1
  have hlt : (W.1 u0).toInt < (W.1 y).toInt := by
    rcases come_ok (P := P) (p := p) hu hdy r0 a2 (W.1 u0) h0 with z | z
    · have a6' : comeF P L R p r0 1000 (W.1 u0) = W.1 y := a6
      have z' : (comeF P L R p r0 1000 (W.1 u0)).toInt = 1000000 := z
      rw [a6'] at z'
      exact absurd z' hyN
    · have a6' : comeF P L R p r0 1000 (W.1 u0) = W.1 y := a6
      have z' : (W.1 u0).toInt < (comeF P L R p r0 1000 (W.1 u0)).toInt := z.1
      rw [a6'] at z'
      exact z'
  have cmE : ∀ r, r < R.2.2.2.2.2.2.2 → ∀ u, u < n → mcome N M T p r (-1) mo (e.1 u) = comeF P L R p r 1000 (W.1 u) := fun r hr' u hu' => by
    rw [← f1 u (by omega)]
    refine (come_eq h hl hr hu hp hr' (hkd r hr') (Int32.le_iff_toInt_le.mpr ?_)).symm
    rw [I_0]
    rcases f3 u hu' with z | z
    · omega
    · exact z.1
  have ends : ∀ r, r < R.2.2.2.2.2.2.2 → ∀ u, u < n → acr R r (nI y) = nI u → (decide (T.1 r = nI y) || decide (T.2.1 r = nI y)) = true ∧ (if T.1 r = nI y then T.2.1 r else T.1 r) = nI u := fun r hr' u hu' e9 => by
    obtain ⟨t1, t2, -⟩ := hr.2 r hr'
    unfold acr at e9
    rw [← t1, ← t2]
    by_cases c1 : R.1 r = nI y
    · rw [if_pos c1] at e9
      rw [decide_eq_true c1, Bool.true_or, if_pos c1]
      exact ⟨rfl, e9⟩
    · rw [if_neg c1] at e9
      by_cases c2 : R.2.1 r = nI y
      · rw [if_pos c2] at e9
        rw [decide_eq_true c2, Bool.or_true, if_neg c1]
        exact ⟨rfl, e9⟩
      · rw [if_neg c2] at e9
        exact absurd e9.symm (nI_nm1 (by omega))
  have back : ∀ r, r < R.2.2.2.2.2.2.2 → (decide (T.1 r = nI y) || decide (T.2.1 r = nI y)) = true → ∃ u, u < n ∧ acr R r (nI y) = nI u ∧ (if T.1 r = nI y then T.2.1 r else T.1 r) = nI u := fun r hr' hb => by
    obtain ⟨t1, t2, -⟩ := hr.2 r hr'
    rw [← t1, ← t2] at hb ⊢
    obtain ⟨a, b, h1, h2, ha, hb', -⟩ := hg r hr'
    unfold acr
    by_cases c1 : R.1 r = nI y
    · rw [if_pos c1, if_pos c1]
      exact ⟨b, hb', h2, h2⟩
    · rw [decide_eq_false c1, Bool.false_or] at hb
      have c2 := of_decide_eq_true hb
      rw [if_neg c1, if_neg c1, if_pos c2]
      exact ⟨a, ha, h1, h1⟩
  obtain ⟨e1, e2⟩ := ends r0 a2 u0 a3 s1
  refine ⟨r0, u0, a1, a2, a3, s1, hlt, hu0, ?_, ?_⟩
  · rw [← hr.1]
    refine fstO_eq ?_ _ _ (Nat.zero_le _) (by omega) (fun r _ hr0 => ?_)
    · unfold rtP
      rw [e1, e2, nI_clamp (by omega), nI_clamp (by omega), cmE r0 a2 u0 a3, Bool.true_and, ← f1 y (by omega), decide_eq_true (a6 : comeF P L R p r0 1000 (W.1 u0) = W.1 y), Bool.and_true]
      exact decide_eq_true (fun z => hu0 (by rw [f1 u0 (by omega), z]; exact I_N))
    · cases hb : rtP N M T p (-1) mo e.1 (nI y) r with
      | false => rfl
      | true =>
        unfold rtP at hb
        rw [Bool.and_eq_true] at hb
        obtain ⟨u, hu', b1, b2⟩ := back r (by omega) hb.1
        have hb2 := hb.2
        rw [b2, nI_clamp (by omega), nI_clamp (by omega), Bool.and_eq_true] at hb2
        have q1 : ¬ (W.1 u).toInt = 1000000 := fun z => of_decide_eq_true hb2.1 (by rw [← f1 u (by omega)]; exact I_eq (z.trans I_N.symm))
        have q2 := of_decide_eq_true hb2.2
        rw [cmE r (by omega) u hu', ← f1 y (by omega)] at q2
        have q3 : ¬ W.2.2.2.1 u = 0 := fun z => q1 (hF u hu' z)
        obtain ⟨w1, -⟩ := acr_sym hg hn (by omega) (by omega) (by omega) b1
        have := a7 u r hu' (by omega) q3 (fun z => absurd z (by omega)) w1 q2
        omega
  · unfold ldU
    rw [e2, nI_clamp (by omega)]
theorem led_run {P N : PT} {L M : LT} {R T : RT} (h : pAg P N) (hl : lAg L M) (hr : rAg R T) (hu : lUn L) (hdy : rDy R) (hkd : rKd R) (hrc : R.2.2.2.2.2.2.2 ≤ 16) {p n x : Nat} (hp : p < P.2.2.2.2.2.2) (hg : gEd R n) (hn : n ≤ 8) (hx : x < n) {mo : Int32} {W : WT} {e : (Nat → Int32) × (Nat → Int32)}
    (hJ : FJ R (fun r => comeF P L R p r 1000) n x W e) (hF : FIN n W) : ∀ k s y (t b : Nat → Int32), y < n → (W.1 y).toInt ≠ 1000000 → cnB (fun j => decide ((W.1 j).toInt < (W.1 y).toInt)) n ≤ k → (∀ i, i < s → t i = b i) → b s = nI y →
      ∃ m t' b', trF R W (k + 1) s y t = (m + 1, t') ∧ ldW2 N M T p (-1) mo e.1 x k s y b = some (m, b') ∧ (∀ i, i ≤ m → t' i = b' i) ∧ m ≤ s + k := by
  have atx : ∀ k s (t : Nat → Int32), (W.1 x).toInt ≠ 1000000 → trF R W (k + 1) s x t = (s + 1, upd t s (nI x)) := fun k s t hN => by
    rw [trF, if_neg (fun z => hN (by rw [z]; exact I_N)), if_pos (Or.inl hJ.2.2.2.2.2.2.2)]
  have eqs : ∀ s (t b : Nat → Int32) (y : Nat), (∀ i, i < s → t i = b i) → b s = nI y → ∀ i, i ≤ s → upd t s (nI y) i = b i := fun s t b y h1 h2 i hi => by
    by_cases e9 : i = s
    · subst e9; rw [upd_eq, h2]
    · rw [upd_ne e9]; exact h1 i (by omega)
  intro k
  induction k with
  | zero =>
    intro s y t b hy hN hrk ht hb
    have hyx : y = x := Classical.byContradiction (fun z => by
      obtain ⟨r, u, -, -, hu', -, hlt, -⟩ := led_one (mo := mo) h hl hr hu hdy hkd hrc hp hg hn hJ hF hy z hN
      have := cnB_one (f := fun j => decide ((W.1 j).toInt < (W.1 y).toInt)) hu' (decide_eq_true hlt)
      omega)
    subst hyx
    exact ⟨s, _, b, atx 0 s t hN, rfl, eqs s t b y ht hb, by omega⟩
  | succ k ih =>
    intro s y t b hy hN hrk ht hb
    by_cases hyx : y = x
    · subst hyx
      refine ⟨s, _, b, atx (k + 1) s t hN, ?_, eqs s t b y ht hb, by omega⟩
      rw [ldW2, if_pos rfl]
    · obtain ⟨r, u, w1, w2, w3, w4, w5, w6, w7, w8⟩ := led_one (mo := mo) h hl hr hu hdy hkd hrc hp hg hn hJ hF hy hyx hN
      have hlt := cnB_lt (f := fun j => decide ((W.1 j).toInt < (W.1 u).toInt)) (g := fun j => decide ((W.1 j).toInt < (W.1 y).toInt)) n (fun j _ hj => decide_eq_true (by have := of_decide_eq_true hj; omega)) ⟨u, w3, decide_eq_true w5, decide_eq_false (by omega)⟩
      obtain ⟨m, t', b', q1, q2, q3, q4⟩ := ih (s + 1) u (upd t s (nI y)) (upd b (s + 1) (nI u)) w3 w6 (by omega) (fun i hi => by
        rw [upd_ne (f := b) (show i ≠ s + 1 by omega)]
        exact eqs s t b y ht hb i (by omega)) (upd_eq _ _ _)
      refine ⟨m, t', b', ?_, ?_, q3, by omega⟩
      · rw [trF, if_neg (fun z => hN (by rw [z]; exact I_N)), w1, nI_clamp (by omega), w4, if_neg (fun z => z.elim (fun z => nI_nm1 (by omega) z) (fun z => nI_nm1 (by omega) z)), nI_clamp (by omega)]
        exact q1
      · rw [ldW2, if_neg hyx, w7]
        show ldW2 N M T p (-1) mo e.1 x k (s + 1) (ldU N M T p (-1) mo e.1 y r) (upd b (s + 1) (nI (ldU N M T p (-1) mo e.1 y r))) = some (m, b')
        rw [w8]
        exact q2
/-- LED: the way from a place back to where the person is -/
theorem led_ag {P N : PT} {L M : LT} {R T : RT} (h : pAg P N) (hl : lAg L M) (hr : rAg R T) (hu : lUn L) (hdy : rDy R) (hkd : rKd R) (hrc : R.2.2.2.2.2.2.2 ≤ 16) {p n x : Nat} (hp : p < P.2.2.2.2.2.2) (hg : gEd R n) (hn : n ≤ 8) (hx : x < n) {mo : Int32} {W : WT} {e : (Nat → Int32) × (Nat → Int32)}
    (hJ : FJ R (fun r => comeF P L R p r 1000) n x W e) (hF : FIN n W) {y : Nat} (hy : y < n) (hN : (W.1 y).toInt ≠ 1000000) (t b : Nat → Int32) :
      ∃ m t' b', trF R W 8 0 y t = (m + 1, t') ∧ ldW2 N M T p (-1) mo e.1 x 7 0 y (upd b 0 (nI y)) = some (m, b') ∧ (∀ i, i ≤ m → t' i = b' i) ∧ m ≤ 7 := by
  have hl7 := cnB_lt (f := fun j => decide ((W.1 j).toInt < (W.1 y).toInt)) (g := fun _ => true) n (fun _ _ _ => rfl) ⟨y, hy, rfl, decide_eq_false (by omega)⟩
  have := cnB_le (fun _ => true) n
  obtain ⟨m, t', b', q1, q2, q3, q4⟩ := led_run (mo := mo) h hl hr hu hdy hkd hrc hp hg hn hx hJ hF 7 0 y t (upd b 0 (nI y)) hy hN (by omega) (fun i hi => absurd hi (Nat.not_lt_zero i)) (upd_eq _ _ _)
  exact ⟨m, t', b', q1, q2, q3, by omega⟩

