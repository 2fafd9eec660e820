/-! ===== gifts: what a child comes to ===== -/
theorem bt_sh_a : ∀ i : Fin 32, ((nI i.val &&& 31).toBitVec.smod 32).toNat = i.val := by decide
theorem bt_shr {i : Nat} (hi : i < 32) (x : Int32) : bt (x >>> (nI i &&& 31)) 0 = bt x i := by
  unfold bt
  rw [Int32.toBitVec_shiftRight, BitVec.getLsbD_sshiftRight', bt_sh_a ⟨i, hi⟩, Nat.add_zero, if_pos hi]
  rfl
theorem bt_one (j : Nat) : bt 1 j = decide (0 = j) := by
  have := bt_shl (a := 0) (by omega) j
  rw [show (1 : Int32) <<< (nI 0 &&& 31) = 1 by decide] at this
  exact this
theorem bt_and_1 (y : Int32) : (y &&& 1 = 1) ↔ bt y 0 = true := by
  refine ⟨fun h => ?_, fun h => bt_ext (fun j _ => ?_)⟩
  · have := bt_and y 1 0
    rw [h, bt_one, decide_eq_true rfl, Bool.and_true] at this
    exact this.symm
  · rw [bt_and, bt_one]
    by_cases e : 0 = j
    · subst e; rw [h]; rfl
    · rw [decide_eq_false e, Bool.and_false]
theorem bit_1 {i : Nat} (hi : i < 32) (x : Int32) : ((x >>> (nI i &&& 31)) &&& 1 = 1) ↔ bt x i = true := by rw [bt_and_1, bt_shr hi]
theorem bit_0 {i : Nat} (hi : i < 32) (x : Int32) : ((x >>> (nI i &&& 31)) &&& 1 = 0) ↔ bt x i = false := by
  have h1 := bit_1 hi x
  rcases bit01 (x >>> (nI i &&& 31)) with e | e
  · rw [e] at h1 ⊢
    refine ⟨fun _ => Bool.eq_false_iff.mpr (fun z => ?_), fun _ => rfl⟩
    exact absurd (h1.mpr z) (by decide)
  · rw [e] at h1 ⊢
    have h2 := h1.mp rfl
    exact ⟨fun z => absurd z (by decide), fun z => by rw [h2] at z; cases z⟩
def gAg (G H : GT) : Prop := G.2.2.2.2.2.2.2.2 = H.2.2.2.2.2.2.2.2 ∧ ∀ g, g < G.2.2.2.2.2.2.2.2 → G.1 g = H.1 g ∧ G.2.1 g = H.2.1 g ∧ G.2.2.1 g = H.2.2.1 g ∧ G.2.2.2.1 g = H.2.2.2.1 g ∧ ∀ q, g * 3 ≤ q → q < g * 3 + gcN G g → G.2.2.2.2.1 q = H.2.2.2.2.1 q ∧ G.2.2.2.2.2.1 q = H.2.2.2.2.2.1 q ∧ (¬ G.2.2.2.2.1 q = 0 → G.2.2.2.2.2.2.1 q = H.2.2.2.2.2.2.1 q)
def gGd (G : GT) : Prop := ∀ g, g < G.2.2.2.2.2.2.2.2 → (0 ≤ (G.2.2.1 g).toInt ∧ (G.2.2.1 g).toInt ≤ 400) ∧ ∀ q, g * 3 ≤ q → q < g * 3 + gcN G g → G.2.2.2.2.1 q = 0 ∨ G.2.2.2.2.1 q = 1 ∨ G.2.2.2.2.1 q = 2
theorem gcN_cg {G H : GT} (h : gAg G H) {g : Nat} (hg : g < G.2.2.2.2.2.2.2.2) : gcN G g = gcN H g := by
  unfold gcN
  rw [(h.2 g hg).2.2.2.1]
def pDy (P : PT) : Prop := ∀ p, p < P.2.2.2.2.2.2 → ∀ q, p * 8 ≤ q → q < p * 8 + pcN P p → 0 ≤ (P.2.2.2.2.1 q).toInt ∧ (P.2.2.2.2.1 q).toInt ≤ 999
def chI (P : PT) (c : Nat) (b : Int32) : Prop := ∀ q, c * 8 ≤ q → q < c * 8 + pcN P c → b ≤ P.2.2.2.2.1 q ∧ b ≤ P.2.2.2.2.2.1 q
theorem hasFr_cg {P N : PT} (h : pAg P N) {p : Nat} (hp : p < P.2.2.2.2.2.2) (k o : Int32) : hasFr P p k o = hasFr N p k o := by
  unfold hasFr
  rw [← pcN_cg h hp]
  refine foldF_c2 _ _ _ (fun y q h1 h2 => ?_)
  obtain ⟨e1, e2, e3, e4⟩ := (h.2 p hp).2.2 q h1 h2
  rw [e1, e2, e3]
theorem lastN_cg {P N : PT} (h : pAg P N) {p : Nat} (hp : p < P.2.2.2.2.2.2) (k o d : Int32) : lastN P p k o d = lastN N p k o d := by
  unfold lastN
  rw [← pcN_cg h hp]
  refine anyF_cg _ _ (fun q h1 h2 => ?_)
  obtain ⟨e1, e2, e3, e4⟩ := (h.2 p hp).2.2 q h1 h2
  unfold lastsP
  rw [e1, e2, e3, e4]
def vR (b v : Int32) : Prop := v.toInt = 1000000 ∨ (b.toInt ≤ v.toInt ∧ v.toInt ≤ 999)
theorem hasFr_rg {P : PT} {c : Nat} {b : Int32} (h1 : chI P c b) (h2 : pDy P) (hc : c < P.2.2.2.2.2.2) (k o : Int32) : vR b (hasFr P c k o) := by
  unfold hasFr
  refine foldF_inv2 (fun x => vR b x) _ _ _ (Or.inl I_N) (fun y q hy q1 q2 => ?_)
  split
  · have a1 := Int32.le_iff_toInt_le.mp (h1 q q1 q2).1
    have a2 := h2 c hc q q1 q2
    unfold vR
    rw [mnI_I]
    unfold vR at hy
    split <;> omega
  · exact hy
theorem cas_ag {G H : GT} {P N : PT} {c q k : Nat} {b : Int32} (h : pAg P N) (hc : c < P.2.2.2.2.2.2) (hq : q < P.2.2.2.2.2.2) (hI : chI P c b) (hD : pDy P) (hb : 0 ≤ b.toInt ∧ b.toInt ≤ 999) (e1 : G.2.2.2.2.1 k = H.2.2.2.2.1 k) (e2 : G.2.2.2.2.2.1 k = H.2.2.2.2.2.1 k) (e3 : ¬ G.2.2.2.2.1 k = 0 → G.2.2.2.2.2.2.1 k = H.2.2.2.2.2.2.1 k) (e4 : G.2.2.2.2.1 k = 0 ∨ G.2.2.2.2.1 k = 1 ∨ G.2.2.2.2.1 k = 2) :
    casF G P k c q b = mcas H N c q b k ∧ vR b (casF G P k c q b) := by
  unfold casF mcas
  rw [← e1, ← e2]
  rcases e4 with z | z | z
  · have n2 : ¬ G.2.2.2.2.1 k = 2 := by rw [z]; decide
    rw [if_neg n2, if_pos z, if_pos z, (h.2 c hc).1]
    refine ⟨rfl, ?_⟩
    split
    · exact Or.inr (by omega)
    · exact Or.inl I_N
  · have n2 : ¬ G.2.2.2.2.1 k = 2 := by rw [z]; decide
    have n0 : ¬ G.2.2.2.2.1 k = 0 := by rw [z]; decide
    rw [if_neg n2, if_neg n0, if_neg n0, if_pos z, ← e3 n0, ← lastN_cg h hq]
    have hn := dayHd_now (P := P) (p := q) (k := G.2.2.2.2.2.1 k) (o := G.2.2.2.2.2.2.1 k) (e := b) (Int32.lt_iff_toInt_lt.mpr (by rw [I_N]; omega))
    by_cases y : dayHd P q (G.2.2.2.2.2.1 k) (G.2.2.2.2.2.2.1 k) b = b
    · rw [if_pos y, if_pos (hn.mp y)]
      exact ⟨rfl, Or.inr (by omega)⟩
    · rw [if_neg y, if_neg (fun x => y (hn.mpr x))]
      exact ⟨rfl, Or.inl I_N⟩
  · have n1 : ¬ G.2.2.2.2.1 k = 1 := by rw [z]; decide
    have n0 : ¬ G.2.2.2.2.1 k = 0 := by rw [z]; decide
    rw [if_neg n0, if_neg n1, if_pos z, ← e3 n0, dayHd_fr hI, hasFr_cg h hc]
    refine ⟨rfl, ?_⟩
    rw [← hasFr_cg h hc]
    exact hasFr_rg hI hD hc _ _
theorem mxI_I (x y : Int32) : (mxI x y).toInt = if x.toInt < y.toInt then y.toInt else x.toInt := by
  unfold mxI
  by_cases h : x < y
  · rw [if_pos h, if_pos (Int32.lt_iff_toInt_lt.mp h)]
  · rw [if_neg h, if_neg (fun z => h (Int32.lt_iff_toInt_lt.mpr z))]
theorem mx_top {f : Nat → Int32} {b : Int32} : ∀ n s (x : Int32), x.toInt = 1000000 → (∀ k, s ≤ k → k < s + n → vR b (f k)) → (foldF (fun x k => mxI x (f k)) s n x).toInt = 1000000
  | 0, _, _, h, _ => h
  | n + 1, s, x, h, hf => by
    rw [foldF]
    refine mx_top n (s + 1) _ ?_ (fun k h1 h2 => hf k (by omega) (by omega))
    rw [mxI_I]
    rcases hf s (Nat.le_refl _) (by omega) with z | z
    · split <;> omega
    · split <;> omega
/-- the day on which a gift is due, both ways -/
theorem due_L {G : GT} {P : PT} {g c q : Nat} {b : Int32} {f : Nat → Int32} (ha : 0 ≤ (G.2.2.1 g).toInt ∧ (G.2.2.1 g).toInt ≤ 400) (hb : 0 ≤ b.toInt) : ∀ n i (x : Int32), b.toInt ≤ x.toInt → x.toInt ≤ 999 → (∀ k, i ≤ k → k < i + n → casF G P (g * 3 + k) c q b = f (g * 3 + k) ∧ vR b (f (g * 3 + k))) →
    ((dueL G P g c q b n i x).toInt = 1000000 ∧ (foldF (fun x k => mxI x (f k)) (g * 3 + i) n x).toInt = 1000000) ∨ ((dueL G P g c q b n i x).toInt = (foldF (fun x k => mxI x (f k)) (g * 3 + i) n x).toInt + (G.2.2.1 g).toInt ∧ b.toInt ≤ (foldF (fun x k => mxI x (f k)) (g * 3 + i) n x).toInt ∧ (foldF (fun x k => mxI x (f k)) (g * 3 + i) n x).toInt ≤ 999)
  | 0, i, x, h1, h2, _ => Or.inr ⟨by rw [dueL, foldF]; exact I_add (by omega) (by omega), h1, h2⟩
  | n + 1, i, x, h1, h2, hf => by
    obtain ⟨e1, e2⟩ := hf i (Nat.le_refl _) (by omega)
    rw [dueL, foldF, e1]
    by_cases z : f (g * 3 + i) = 1000000
    · rw [if_pos z]
      refine Or.inl ⟨I_N, mx_top (b := b) n _ _ ?_ (fun k k1 k2 => ?_)⟩
      · rw [mxI_I, z, I_N]; split <;> omega
      · have := (hf (k - g * 3) (by omega) (by omega)).2
        rw [show g * 3 + (k - g * 3) = k by omega] at this
        exact this
    · rw [if_neg z]
      have hv : b.toInt ≤ (f (g * 3 + i)).toInt ∧ (f (g * 3 + i)).toInt ≤ 999 := by
        rcases e2 with y | y
        · exact absurd (I_eq (y.trans I_N.symm)) z
        · exact y
      have := due_L (P := P) (c := c) (q := q) ha hb n (i + 1) (mxI x (f (g * 3 + i))) (by rw [mxI_I]; split <;> omega) (by rw [mxI_I]; split <;> omega) (fun k k1 k2 => hf k (by omega) (by omega))
      rw [show g * 3 + (i + 1) = g * 3 + i + 1 by omega] at this
      exact this
theorem due_ag {G H : GT} {P N : PT} {c q : Nat} {b : Int32} (hG : gAg G H) (hgd : gGd G) (h : pAg P N) (hc : c < P.2.2.2.2.2.2) (hq : q < P.2.2.2.2.2.2) (hI : chI P c b) (hD : pDy P) (hb : 0 ≤ b.toInt ∧ b.toInt ≤ 999) {g : Nat} (hg : g < G.2.2.2.2.2.2.2.2) :
    ((dueF G P g c q b).toInt ≤ 999 → giD H N g c q b = dueF G P g c q b ∧ b.toInt ≤ (dueF G P g c q b).toInt) ∧ (¬ (dueF G P g c q b).toInt ≤ 999 → giD H N g c q b = 1000000) := by
  obtain ⟨g1, g2, g3, g4, g5⟩ := hG.2 g hg
  obtain ⟨a1, a2⟩ := hgd g hg
  have hL := due_L (G := G) (P := P) (g := g) (c := c) (q := q) (b := b) (f := mcas H N c q b) a1 hb.1 (gcN G g) 0 b (Int.le_refl _) hb.2 (fun k k1 k2 => by
    obtain ⟨e1, e2, e3⟩ := g5 (g * 3 + k) (by omega) (by omega)
    obtain ⟨r1, r2⟩ := cas_ag (q := q) h hc hq hI hD hb e1 e2 e3 (a2 (g * 3 + k) (by omega) (by omega))
    exact ⟨r1, by rw [← r1]; exact r2⟩)
  rw [Nat.add_zero] at hL
  have e0 : giL H N g c q b = foldF (fun x k => mxI x (mcas H N c q b k)) (g * 3) (gcN G g) b := by
    unfold giL
    rw [gcN_cg hG hg]
  unfold giD dueF
  rw [e0, ← g3]
  generalize foldF (fun x k => mxI x (mcas H N c q b k)) (g * 3) (gcN G g) b = m at *
  generalize dueL G P g c q b (gcN G g) 0 b = d at *
  rcases hL with ⟨h1, h2⟩ | ⟨h1, h2, h3⟩
  · rw [if_pos (Or.inl (I_eq (h2.trans I_N.symm)))]
    exact ⟨fun z => by omega, fun _ => rfl⟩
  · have e1 : (m + G.2.2.1 g).toInt = d.toInt := by rw [I_add (by omega) (by omega), h1]
    refine ⟨fun z => ?_, fun z => ?_⟩
    · rw [if_neg (fun y => y.elim (fun y => by rw [y, I_N] at h3; omega) (fun y => by
        have := Int32.lt_iff_toInt_lt.mp y
        rw [I_999, e1] at this
        omega))]
      exact ⟨I_eq e1, by omega⟩
    · rw [if_pos (Or.inr (Int32.lt_iff_toInt_lt.mpr (by rw [I_999, e1]; omega)))]
def pstR (n : Nat) (f : Nat → Int32) (lk : Int32) : Prop := ∀ g, g < n → (f g = 0 ↔ bt lk g = false)
theorem sel_ag {G H : GT} {P N : PT} {c q : Nat} {b : Int32} {f : Nat → Int32} {lk : Int32} (hG : gAg G H) (hgd : gGd G) (h12 : G.2.2.2.2.2.2.2.2 ≤ 12) (h : pAg P N) (hc : c < P.2.2.2.2.2.2) (hq : q < P.2.2.2.2.2.2) (hI : chI P c b) (hD : pDy P) (hb : 0 ≤ b.toInt ∧ b.toInt ≤ 999) (hp : pstR G.2.2.2.2.2.2.2.2 f lk) :
    ((gvN G P f c q b).1 = -1 ∧ gsM H N lk c q b H.2.2.2.2.2.2.2.2 = -1) ∨ ∃ s, s < G.2.2.2.2.2.2.2.2 ∧ gvN G P f c q b = (nI s, giD H N s c q b) ∧ gsM H N lk c q b H.2.2.2.2.2.2.2.2 = nI s ∧ b.toInt ≤ (giD H N s c q b).toInt ∧ (giD H N s c q b).toInt ≤ 999 := by
  have key := foldF_ix (g := gvOne G P f c q b) (I := fun i s => (s = (-1, 1000) ∧ gsM H N lk c q b i = -1) ∨ ∃ g, g < i ∧ s = (nI g, giD H N g c q b) ∧ gsM H N lk c q b i = nI g ∧ b.toInt ≤ (giD H N g c q b).toInt ∧ (giD H N g c q b).toInt ≤ 999) G.2.2.2.2.2.2.2.2 0 (-1, 1000) (Or.inl ⟨rfl, rfl⟩) (fun y i _ hi hI' => by
    obtain ⟨d1, d2⟩ := due_ag (q := q) hG hgd h hc hq hI hD hb (g := i) (by omega)
    have hb1 := bit_1 (i := i) (by omega) lk
    have hp1 := hp i (by omega)
    have I_1000 : (1000 : Int32).toInt = 1000 := by decide
    by_cases hf : f i = 0
    · have hlk : ¬ (lk >>> (nI i &&& 31)) &&& 1 = 1 := fun z => by
        have := hb1.mp z
        rw [hp1.mp hf] at this
        cases this
      have eD : gvD G P f c q b i = dueF G P i c q b := by unfold gvD; rw [if_pos hf]
      by_cases hd : (dueF G P i c q b).toInt ≤ 999
      · obtain ⟨d3, d4⟩ := d1 hd
        have hN : ¬ giD H N i c q b = 1000000 := fun z => by rw [d3] at z; rw [z, I_N] at hd; omega
        rcases hI' with ⟨e1, e2⟩ | ⟨g, e0, e1, e2, e3, e4⟩
        · refine Or.inr ⟨i, by omega, ?_, ?_, by rw [d3]; exact d4, by rw [d3]; exact hd⟩
          · unfold gvOne
            rw [eD, e1, if_pos (Int32.lt_iff_toInt_lt.mpr (by rw [I_1000]; omega)), d3]
          · rw [gsM, if_neg (fun z => z.elim hlk hN), if_pos (Or.inl e2)]
        · by_cases hl : (dueF G P i c q b).toInt < (giD H N g c q b).toInt
          · refine Or.inr ⟨i, by omega, ?_, ?_, by rw [d3]; exact d4, by rw [d3]; exact hd⟩
            · unfold gvOne
              rw [eD, e1, if_pos (Int32.lt_iff_toInt_lt.mpr hl), d3]
            · rw [gsM, if_neg (fun z => z.elim hlk hN), e2, nI_clamp (by omega), if_pos (Or.inr (Int32.lt_iff_toInt_lt.mpr (by rw [d3]; exact hl)))]
          · refine Or.inr ⟨g, by omega, ?_, ?_, e3, e4⟩
            · unfold gvOne
              rw [eD, e1, if_neg (fun z => hl (Int32.lt_iff_toInt_lt.mp z))]
            · rw [gsM, if_neg (fun z => z.elim hlk hN), e2, nI_clamp (by omega), if_neg (fun z => z.elim (fun z => nI_nm1 (by omega) z) (fun z => hl (by rw [d3] at z; exact Int32.lt_iff_toInt_lt.mp z)))]
      · have hN := d2 hd
        rcases hI' with ⟨e1, e2⟩ | ⟨g, e0, e1, e2, e3, e4⟩
        · refine Or.inl ⟨?_, ?_⟩
          · unfold gvOne
            rw [eD, e1, if_neg (fun z => by have := Int32.lt_iff_toInt_lt.mp z; rw [I_1000] at this; omega)]
          · rw [gsM, if_pos (Or.inr hN)]; exact e2
        · refine Or.inr ⟨g, by omega, ?_, ?_, e3, e4⟩
          · unfold gvOne
            rw [eD, e1, if_neg (fun z => by have := Int32.lt_iff_toInt_lt.mp z; dsimp only at this; omega)]
          · rw [gsM, if_pos (Or.inr hN)]; exact e2
    · have hlk : (lk >>> (nI i &&& 31)) &&& 1 = 1 := hb1.mpr (by
        cases hz : bt lk i with
        | true => rfl
        | false => exact absurd (hp1.mpr hz) hf)
      have eD : gvD G P f c q b i = 1000000 := by unfold gvD; rw [if_neg hf]
      rcases hI' with ⟨e1, e2⟩ | ⟨g, e0, e1, e2, e3, e4⟩
      · refine Or.inl ⟨?_, ?_⟩
        · unfold gvOne
          rw [eD, e1, if_neg (by decide)]
        · rw [gsM, if_pos (Or.inl hlk)]; exact e2
      · refine Or.inr ⟨g, by omega, ?_, ?_, e3, e4⟩
        · unfold gvOne
          rw [eD, e1, if_neg (fun z => by have := Int32.lt_iff_toInt_lt.mp z; rw [I_N] at this; dsimp only at this; omega)]
        · rw [gsM, if_pos (Or.inl hlk)]; exact e2)
  rw [Nat.zero_add, hG.1] at key
  rcases key with ⟨e1, e2⟩ | ⟨g, e0, e1, e2, e3, e4⟩
  · refine Or.inl ⟨?_, e2⟩
    unfold gvN
    rw [hG.1, e1]
  · refine Or.inr ⟨g, by rw [hG.1]; exact e0, ?_, e2, e3, e4⟩
    unfold gvN
    rw [hG.1]
    exact e1
theorem pcN_give {P : PT} {p : Nat} {k o f t : Int32} (hl : pcN P p < 8) (i : Nat) : pcN (peopleGive P p k o f t) i = if i = p then pcN P p + 1 else pcN P i := by
  unfold pcN peopleGive
  show (upd P.2.1 p (nI (pcN P p + 1)) i).toNatClampNeg = _
  by_cases e : i = p
  · subst e; rw [upd_eq, if_pos rfl, nI_clamp (by omega)]; rfl
  · rw [upd_ne e, if_neg e]
theorem pAg_give {P N : PT} {p : Nat} {k o f t : Int32} (h : pAg P N) (hP : pOk P) (hp : p < P.2.2.2.2.2.2) (hl : pcN P p < 8) : pAg (peopleGive P p k o f t) (peopleGive N p k o f t) := by
  have el := pcN_cg h hp
  refine ⟨h.1, fun i hi => ?_⟩
  have hi' : i < P.2.2.2.2.2.2 := hi
  obtain ⟨h1, h2, h3⟩ := h.2 i hi'
  refine ⟨h1, ?_, fun q q1 q2 => ?_⟩
  · show upd P.2.1 p (nI (pcN P p + 1)) i = upd N.2.1 p (nI (pcN N p + 1)) i
    rw [el]
    by_cases e : i = p
    · subst e; rw [upd_eq, upd_eq]
    · rw [upd_ne e, upd_ne e]; exact h2
  · rw [pcN_give hl] at q2
    show upd P.2.2.1 (p * 8 + pcN P p) k q = upd N.2.2.1 (p * 8 + pcN N p) k q ∧ upd P.2.2.2.1 (p * 8 + pcN P p) o q = upd N.2.2.2.1 (p * 8 + pcN N p) o q ∧ upd P.2.2.2.2.1 (p * 8 + pcN P p) f q = upd N.2.2.2.2.1 (p * 8 + pcN N p) f q ∧ upd P.2.2.2.2.2.1 (p * 8 + pcN P p) t q = upd N.2.2.2.2.2.1 (p * 8 + pcN N p) t q
    rw [← el]
    by_cases e : q = p * 8 + pcN P p
    · subst e; simp only [upd_eq]; exact ⟨trivial, trivial, trivial, trivial⟩
    · rw [upd_ne e, upd_ne e, upd_ne e, upd_ne e, upd_ne e, upd_ne e, upd_ne e, upd_ne e]
      refine h3 q q1 ?_
      by_cases e9 : i = p
      · subst e9; rw [if_pos rfl] at q2; omega
      · rw [if_neg e9] at q2; exact q2
theorem pDy_give {P : PT} {p : Nat} {k o f t : Int32} (h : pDy P) (hP : pOk P) (hp : p < P.2.2.2.2.2.2) (hl : pcN P p < 8) (hf : 0 ≤ f.toInt ∧ f.toInt ≤ 999) : pDy (peopleGive P p k o f t) := fun i hi q q1 q2 => by
  have hi' : i < P.2.2.2.2.2.2 := hi
  show 0 ≤ (upd P.2.2.2.2.1 (p * 8 + pcN P p) f q).toInt ∧ (upd P.2.2.2.2.1 (p * 8 + pcN P p) f q).toInt ≤ 999
  rw [pcN_give hl] at q2
  by_cases e : q = p * 8 + pcN P p
  · subst e; rw [upd_eq]; exact hf
  · rw [upd_ne e]
    refine h i hi' q q1 ?_
    by_cases e9 : i = p
    · subst e9; rw [if_pos rfl] at q2; omega
    · rw [if_neg e9] at q2; exact q2
theorem chM_full {H : GT} {c q : Nat} {b : Int32} : ∀ k (N : PT) (lk : Int32), pcN N c = 8 → chM H c q b k N lk = N
  | 0, _, _, _ => rfl
  | k + 1, N, lk, h => by
    rw [chM]
    split
    · rfl
    · have e : chP H N c q b (gsM H N lk c q b H.2.2.2.2.2.2.2.2).toNatClampNeg = N := by unfold chP; rw [if_pos (Or.inr h)]
      rw [e]
      exact chM_full k N _ h
/-- THE GIFTS: both sides give alike -/
theorem gift_ag {G H : GT} {c q : Nat} {b : Int32} (hG : gAg G H) (hgd : gGd G) (h12 : G.2.2.2.2.2.2.2.2 ≤ 12) (hb : 0 ≤ b.toInt ∧ b.toInt ≤ 999) : ∀ k (P N : PT) (f : Nat → Int32) (lk : Int32), pAg P N → pOk P → c < P.2.2.2.2.2.2 → q < P.2.2.2.2.2.2 → chI P c b → pDy P → pstR G.2.2.2.2.2.2.2.2 f lk →
    pAg (gvR G c q b k P f) (chM H c q b k N lk) ∧ pOk (gvR G c q b k P f) ∧ pDy (gvR G c q b k P f) ∧ (gvR G c q b k P f).2.2.2.2.2.2 = P.2.2.2.2.2.2 ∧ (gvR G c q b k P f).1 = P.1
  | 0, P, N, f, lk, h, hP, _, _, _, hD, _ => ⟨h, hP, hD, rfl, rfl⟩
  | k + 1, P, N, f, lk, h, hP, hc, hq, hI, hD, hp => by
    rw [gvR]
    by_cases hl : pcN P c < 8
    · rw [if_pos hl, chM]
      rcases sel_ag (q := q) hG hgd h12 h hc hq hI hD hb hp with ⟨e1, e2⟩ | ⟨s, e0, e1, e2, e3, e4⟩
      · rw [if_pos e1, if_pos e2]
        exact ⟨h, hP, hD, rfl, rfl⟩
      · rw [e1, e2]
        rw [if_neg (nI_nm1 (by omega)), if_neg (nI_nm1 (by omega)), nI_clamp (by omega)]
        obtain ⟨g1, g2, -⟩ := hG.2 s e0
        have hp' : pstR G.2.2.2.2.2.2.2.2 (upd f s 1) (lk ||| (1 : Int32) <<< (nI s &&& 31)) := fun i hi => by
          rw [bt_or, bt_shl (by omega)]
          by_cases e : i = s
          · subst e; rw [upd_eq, decide_eq_true rfl, Bool.or_true]; exact ⟨fun z => absurd z (by decide), fun z => by cases z⟩
          · rw [upd_ne e, decide_eq_false (fun z => e z.symm), Bool.or_false]; exact hp i hi
        have eF : dayHd P c (G.1 s) (G.2.1 s) b = hasFr N c (H.1 s) (H.2.1 s) := by rw [dayHd_fr hI, hasFr_cg h hc, g1, g2]
        have e8 : ¬ pcN N c = 8 := by rw [← pcN_cg h hc]; omega
        by_cases hd : giD H N s c q b < dayHd P c (G.1 s) (G.2.1 s) b
        · have eg : gvP G P c b s (giD H N s c q b) = peopleGive P c (G.1 s) (G.2.1 s) (giD H N s c q b) 999 := by unfold gvP; rw [if_pos hd]
          have em : chP H N c q b s = peopleGive N c (G.1 s) (G.2.1 s) (giD H N s c q b) 999 := by
            unfold chP
            rw [if_neg (fun z => z.elim (fun z => by rw [eF] at hd; exact absurd hd (Int32.not_lt.mpr z)) e8), g1, g2]
          show pAg (gvR G c q b k (gvP G P c b s (giD H N s c q b)) (upd f s 1)) (chM H c q b k (chP H N c q b s) _) ∧ _
          rw [eg, em]
          obtain ⟨r1, r2, r3, r4, r5⟩ := gift_ag hG hgd h12 hb k (peopleGive P c (G.1 s) (G.2.1 s) (giD H N s c q b) 999) (peopleGive N c (G.1 s) (G.2.1 s) (giD H N s c q b) 999) (upd f s 1) (lk ||| (1 : Int32) <<< (nI s &&& 31)) (pAg_give h hP hc hl) (pOk_give hP hc hl) hc hq (fun i i1 i2 => by
            show b ≤ upd P.2.2.2.2.1 (c * 8 + pcN P c) (giD H N s c q b) i ∧ b ≤ upd P.2.2.2.2.2.1 (c * 8 + pcN P c) 999 i
            rw [pcN_give hl, if_pos rfl] at i2
            by_cases e : i = c * 8 + pcN P c
            · subst e; rw [upd_eq, upd_eq]
              exact ⟨Int32.le_iff_toInt_le.mpr e3, Int32.le_iff_toInt_le.mpr (by rw [I_999]; exact hb.2)⟩
            · rw [upd_ne e, upd_ne e]; exact hI i i1 (by omega)) (pDy_give hD hP hc hl (by omega)) hp'
          exact ⟨r1, r2, r3, r4, r5⟩
        · have eg : gvP G P c b s (giD H N s c q b) = P := by unfold gvP; rw [if_neg hd]
          have em : chP H N c q b s = N := by
            unfold chP
            rw [if_pos (Or.inl (by rw [eF] at hd; exact Int32.not_lt.mp hd))]
          show pAg (gvR G c q b k (gvP G P c b s (giD H N s c q b)) (upd f s 1)) (chM H c q b k (chP H N c q b s) _) ∧ _
          rw [eg, em]
          exact gift_ag hG hgd h12 hb k P N _ _ h hP hc hq hI hD hp'
    · rw [if_neg hl, chM_full (k + 1) N lk (by
        have := (hP.2 c hc).2
        rw [← pcN_cg h hc]; omega)]
      exact ⟨h, hP, hD, rfl, rfl⟩

