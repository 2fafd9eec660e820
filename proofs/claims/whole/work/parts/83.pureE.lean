/-! ===== clauses: what may stand together ===== -/
def qui (fo : Nat → Int32) (x : Int32) : Prop := ∀ a b, a < 16 → b < 16 → bt (fo a) b = true → bt x a = true → bt x b = true → False
def brR (fo : Nat → Int32) (bars x : Int32) : Prop := ∀ j, j < 16 → (bt bars j = true ↔ ∃ a, a < 16 ∧ bt x a = true ∧ bt (fo a) j = true)
def syF (fo : Nat → Int32) : Prop := ∀ a b, a < 16 → b < 16 → bt (fo a) b = true → bt (fo b) a = true
def w16 (x : Int32) : Prop := ∀ j, bt x j = true → j < 16
theorem foeF_bt (fo : Nat → Int32) (x : Int32) (j : Nat) : ∀ i, i ≤ 16 → (bt (foeF fo x i) j = true ↔ ∃ a, a < i ∧ bt x a = true ∧ bt (fo a) j = true)
  | 0, _ => ⟨fun h => (by rw [foeF, bt_0] at h; cases h), fun ⟨a, h, _⟩ => absurd h (Nat.not_lt_zero a)⟩
  | i + 1, hi => by
    have ih := foeF_bt fo x j i (by omega)
    rw [foeF]
    by_cases hb : (x >>> (nI i &&& 31)) &&& 1 = 0
    · rw [if_pos hb, ih]
      have h0 := (bit_0 (by omega) x).mp hb
      refine ⟨fun ⟨a, h1, h2⟩ => ⟨a, by omega, h2⟩, fun ⟨a, h1, h2, h3⟩ => ⟨a, ?_, h2, h3⟩⟩
      by_cases e : a = i
      · subst e; rw [h0] at h2; cases h2
      · omega
    · rw [if_neg hb, bt_or, Bool.or_eq_true, ih]
      have h1 : bt x i = true := by
        cases hz : bt x i with
        | true => rfl
        | false => exact absurd ((bit_0 (by omega) x).mpr hz) hb
      refine ⟨fun h => ?_, fun ⟨a, h2, h3, h4⟩ => ?_⟩
      · rcases h with ⟨a, h2, h3⟩ | h
        · exact ⟨a, by omega, h3⟩
        · exact ⟨i, by omega, h1, h⟩
      · by_cases e : a = i
        · subst e; exact Or.inr h4
        · exact Or.inl ⟨a, by omega, h3, h4⟩
theorem and0_bt {x m : Int32} : x &&& m = 0 ↔ ∀ j, bt x j = true → bt m j = true → False := by
  refine ⟨fun h j h1 h2 => ?_, fun h => Classical.byContradiction (fun z => ?_)⟩
  · have := bt_and0 h j
    rw [h1, h2] at this
    cases this
  · obtain ⟨j, h1, h2⟩ := bt_and1 z
    exact h j h1 h2
/-- may a clause stand with what is chosen: it may, if and only if the words together are quiet -/
theorem may_yes {fo wd br : Nat → Int32} {k : Nat} {bars x : Int32} (hs : syF fo) (hw : w16 (wd k)) (hb : brR fo bars x) (hk : br k = foeF fo (wd k) 16) (hq : qui fo x) (hm : mayF wd br k bars = true) : qui fo (x ||| wd k) ∧ brR fo (bars ||| br k) (x ||| wd k) := by
  have hm := and0_bt.mp (of_decide_eq_true hm)
  have hbr : ∀ j, bt (br k) j = true ↔ ∃ a, a < 16 ∧ bt (wd k) a = true ∧ bt (fo a) j = true := fun j => by rw [hk]; exact foeF_bt fo (wd k) j 16 (Nat.le_refl _)
  have hm1 : ∀ j, bt (wd k) j = true → bt bars j = true → False := fun j h1 h2 => hm j h1 (by rw [bt_or, h2, Bool.true_or])
  have hm2 : ∀ j, bt (wd k) j = true → bt (br k) j = true → False := fun j h1 h2 => hm j h1 (by rw [bt_or, h2, Bool.or_true])
  refine ⟨fun a b ha hb' hf h1 h2 => ?_, fun j hj => ?_⟩
  · rw [bt_or, Bool.or_eq_true] at h1 h2
    rcases h1 with h1 | h1 <;> rcases h2 with h2 | h2
    · exact hq a b ha hb' hf h1 h2
    · exact hm1 b h2 ((hb b hb').mpr ⟨a, ha, h1, hf⟩)
    · exact hm1 a h1 ((hb a ha).mpr ⟨b, hb', h2, hs a b ha hb' hf⟩)
    · exact hm2 b h2 ((hbr b).mpr ⟨a, ha, h1, hf⟩)
  · rw [bt_or, Bool.or_eq_true, hb j hj, hbr j]
    refine ⟨fun h => ?_, fun ⟨a, h1, h2, h3⟩ => ?_⟩
    · rcases h with ⟨a, h1, h2, h3⟩ | ⟨a, h1, h2, h3⟩
      · exact ⟨a, h1, by rw [bt_or, h2, Bool.true_or], h3⟩
      · exact ⟨a, h1, by rw [bt_or, h2, Bool.or_true], h3⟩
    · rw [bt_or, Bool.or_eq_true] at h2
      rcases h2 with h2 | h2
      · exact Or.inl ⟨a, h1, h2, h3⟩
      · exact Or.inr ⟨a, h1, h2, h3⟩
theorem may_of {fo wd br : Nat → Int32} {k : Nat} {bars x y : Int32} (hw : w16 (wd k)) (hb : brR fo bars x) (hk : br k = foeF fo (wd k) 16) (hq : qui fo y) (h1 : ∀ j, bt x j = true → bt y j = true) (h2 : ∀ j, bt (wd k) j = true → bt y j = true) : mayF wd br k bars = true := by
  refine decide_eq_true (and0_bt.mpr (fun j j1 j2 => ?_))
  have hj := hw j j1
  rw [bt_or, Bool.or_eq_true] at j2
  rcases j2 with j2 | j2
  · obtain ⟨a, ha, a1, a2⟩ := (hb j hj).mp j2
    exact hq a j ha hj a2 (h1 a a1) (h2 j j1)
  · rw [hk] at j2
    obtain ⟨a, ha, a1, a2⟩ := (foeF_bt fo (wd k) j 16 (Nat.le_refl _)).mp j2
    exact hq a j ha hj a2 (h2 a a1) (h2 j j1)
theorem I_or0 (x : Int32) : x ||| 0 = x := bt_ext (fun j _ => by rw [bt_or, bt_0, Bool.or_false])
theorem allP_sub {c p : Nat → Nat} {wd : Nat → Int32} {j : Nat} : ∀ t u, t ≤ u → bt (allP c p wd t) j = true → bt (allP c p wd u) j = true
  | t, 0, h, h1 => by rw [show t = 0 by omega] at h1; exact h1
  | t, u + 1, h, h1 => by
    by_cases e : t = u + 1
    · rw [← e]; exact h1
    · rw [allP, bt_or, allP_sub t u (by omega) h1, Bool.true_or]
theorem allP_in {c p : Nat → Nat} {wd : Nat → Int32} {t u j : Nat} (ht : t < u) (hp : p t < c t) (h : bt (wd (t * 4 + p t)) j = true) : bt (allP c p wd u) j = true := by
  refine allP_sub (t + 1) u (by omega) ?_
  rw [allP, if_pos hp, bt_or, h, Bool.or_true]
theorem allP_none {c p : Nat → Nat} {wd : Nat → Int32} : ∀ t u, t ≤ u → (∀ j, t ≤ j → j < u → ¬ p j < c j) → allP c p wd u = allP c p wd t
  | t, 0, h, _ => by rw [show t = 0 by omega]
  | t, u + 1, h, h1 => by
    by_cases e : t = u + 1
    · rw [← e]
    · rw [allP, if_neg (h1 u (by omega) (by omega)), I_or0, allP_none t u (by omega) (fun j j1 j2 => h1 j j1 (by omega))]
theorem cntP_none {c p : Nat → Nat} : ∀ t u, t ≤ u → (∀ j, t ≤ j → j < u → ¬ p j < c j) → cntP c p u = cntP c p t
  | t, 0, h, _ => by rw [show t = 0 by omega]
  | t, u + 1, h, h1 => by
    by_cases e : t = u + 1
    · rw [← e]
    · rw [cntP, if_neg (h1 u (by omega) (by omega)), Nat.add_zero, cntP_none t u (by omega) (fun j j1 j2 => h1 j j1 (by omega))]
theorem cntP_mo {c p : Nat → Nat} : ∀ t u, t ≤ u → cntP c p t ≤ cntP c p u
  | t, 0, h => by rw [show t = 0 by omega]; exact Nat.le_refl _
  | t, u + 1, h => by
    by_cases e : t = u + 1
    · rw [← e]; exact Nat.le_refl _
    · have := cntP_mo (c := c) (p := p) t u (by omega)
      rw [cntP]; omega
theorem cntP_same {c p : Nat → Nat} : ∀ t u, t ≤ u → cntP c p u = cntP c p t → ∀ j, t ≤ j → j < u → ¬ p j < c j
  | t, 0, h, _, j, _, hj => absurd hj (Nat.not_lt_zero j)
  | t, u + 1, h, he, j, j1, j2 => by
    by_cases e : t = u + 1
    · omega
    · have hm := cntP_mo (c := c) (p := p) t u (by omega)
      rw [cntP] at he
      by_cases hp : p u < c u
      · rw [if_pos hp] at he; omega
      · rw [if_neg hp] at he
        by_cases e2 : j = u
        · rw [e2]; exact hp
        · exact cntP_same t u (by omega) (by omega) j j1 (by omega)
theorem rkN_mono {c q p : Nat → Nat} (hq : ∀ t, t < 9 → q t ≤ c t) : ∀ t u, t ≤ u → u ≤ 9 → rkN c q t < rkN c p t → rkN c q u < rkN c p u
  | t, 0, h, _, h1 => by rw [show t = 0 by omega] at h1; exact h1
  | t, u + 1, h, hu, h1 => by
    by_cases e : t = u + 1
    · rw [← e]; exact h1
    · have ih := rkN_mono hq t u (by omega) (by omega) h1
      have h2 := hq u (by omega)
      rw [rkN, rkN]
      have : (rkN c q u + 1) * (c u + 1) ≤ rkN c p u * (c u + 1) := Nat.mul_le_mul_right _ ih
      rw [Nat.add_mul] at this
      omega
theorem frA_ge {cl wd br : Nat → Int32} {bars : Int32} {q : Nat → Nat} : ∀ n t x, (∀ j, t ≤ j → j < t + n → q j < tcF cl j → mayF wd br (j * 4 + q j) bars = true) → x + cntP (tcF cl) q (t + n) ≤ frA cl wd br bars n t x + cntP (tcF cl) q t
  | 0, t, x, _ => by rw [frA]; exact Nat.le_refl _
  | n + 1, t, x, h => by
    rw [frA]
    have ih := frA_ge (cl := cl) (wd := wd) (br := br) (bars := bars) (q := q) n (t + 1) (if anyF (fun k => mayF wd br k bars) (t * 4) (tcF cl t) = true then x + 1 else x) (fun j j1 j2 => h j (by omega) (by omega))
    rw [show t + 1 + n = t + (n + 1) by omega, cntP] at ih
    by_cases hp : q t < tcF cl t
    · have : anyF (fun k => mayF wd br k bars) (t * 4) (tcF cl t) = true := (anyF_iff _ _).mpr ⟨t * 4 + q t, by omega, by omega, h t (Nat.le_refl _) (by omega) hp⟩
      rw [if_pos this] at ih ⊢
      rw [if_pos hp] at ih
      omega
    · rw [if_neg hp] at ih
      split at ih
      · next z => rw [if_pos z]; omega
      · next z => rw [if_neg z]; omega
/-! ===== the search ===== -/
def rpI (c p : Nat → Nat) (t : Nat) : Int32 := if p t < c t then nI (p t) else -2
def bst (fo cl wd : Nat → Int32) (t R : Nat) (s : chS) : Prop := ∃ b, pkO (tcF cl) b ∧ s.2.2 = nI (cntP (tcF cl) b 9) ∧ (∀ j, j < 9 → s.2.1 j = rpI (tcF cl) b j) ∧ qui fo (allP (tcF cl) b wd 9) ∧
  (∀ q, pkO (tcF cl) q → qui fo (allP (tcF cl) q wd 9) → cntP (tcF cl) q 9 = cntP (tcF cl) b 9 → rkN (tcF cl) b 9 ≤ rkN (tcF cl) q 9) ∧ (∀ q, pkO (tcF cl) q → qui fo (allP (tcF cl) q wd 9) → rkN (tcF cl) q t < R → cntP (tcF cl) q 9 ≤ cntP (tcF cl) b 9)
theorem keepF_at (tr ch : Nat → Int32) (t : Nat) : ∀ i j, j < i → keepF tr ch t i j = if j < t then tr j else -2
  | 0, j, h => absurd h (Nat.not_lt_zero j)
  | i + 1, j, h => by
    rw [keepF]
    by_cases e : j = i
    · subst e; rw [upd_eq]
    · rw [upd_ne e]; exact keepF_at tr ch t i j (by omega)
def pnN (c p : Nat → Nat) (t : Nat) : Nat → Nat := fun j => if j < t then p j else c j
theorem qui_sub {fo : Nat → Int32} {x y : Int32} (h : qui fo y) (hs : ∀ j, bt x j = true → bt y j = true) : qui fo x := fun a b ha hb hf h1 h2 => h a b ha hb hf (hs a h1) (hs b h2)
/-- keeping what is tried -/
theorem chK_ok {fo cl wd : Nat → Int32} {t th : Nat} {p : Nat → Nat} {s : chS} (ht : t ≤ 9) (hp : pkO (tcF cl) p) (hth : th = cntP (tcF cl) p t) (hq : qui fo (allP (tcF cl) p wd t)) (htr : ∀ j, j < t → s.1 j = rpI (tcF cl) p j) (h : bst fo cl wd t (rkN (tcF cl) p t) s) :
    bst fo cl wd t (rkN (tcF cl) p t) (chK t th s) ∧ (chK t th s).1 = s.1 ∧ nI th ≤ (chK t th s).2.2 := by
  have h9 := cntP_le (tcF cl) p t
  obtain ⟨b, b1, b2, b3, b4, b5, b6⟩ := h
  have hb9 := cntP_le (tcF cl) b 9
  unfold chK
  by_cases hl : s.2.2 < nI th
  · rw [if_pos hl]
    rw [b2, Int32.lt_iff_toInt_lt, nI_toInt (by omega), nI_toInt (by omega)] at hl
    have hpn : ∀ j, j < t → pnN (tcF cl) p t j = p j := fun j hj => if_pos hj
    have hpc : ∀ j, t ≤ j → pnN (tcF cl) p t j = tcF cl j := fun j hj => if_neg (by omega)
    have hno : ∀ j, t ≤ j → j < 9 → ¬ pnN (tcF cl) p t j < tcF cl j := fun j hj _ => by rw [hpc j hj]; omega
    have hok : pkO (tcF cl) (pnN (tcF cl) p t) := fun j hj => by
      by_cases e : j < t
      · rw [hpn j e]; exact hp j hj
      · rw [hpc j (by omega)]; exact Nat.le_refl _
    have hcn : cntP (tcF cl) (pnN (tcF cl) p t) 9 = th := by rw [cntP_none t 9 ht hno, cntP_cg t hpn, hth]
    have hal : allP (tcF cl) (pnN (tcF cl) p t) wd 9 = allP (tcF cl) p wd t := by rw [allP_none t 9 ht hno, allP_cg t hpn]
    refine ⟨⟨pnN (tcF cl) p t, hok, by show nI th = _; rw [hcn], fun j hj => ?_, by rw [hal]; exact hq, fun q q1 q2 q3 => ?_, fun q q1 q2 q3 => ?_⟩, rfl, Int32.le_refl _⟩
    · show keepF s.1 s.2.1 t 9 j = _
      rw [keepF_at _ _ _ 9 j hj]
      by_cases e : j < t
      · rw [if_pos e, htr j e]
        unfold rpI
        rw [hpn j e]
      · rw [if_neg e]
        unfold rpI
        rw [if_neg (hno j (by omega) hj)]
    · rw [hcn] at q3
      rcases Nat.lt_trichotomy (rkN (tcF cl) q t) (rkN (tcF cl) p t) with z | z | z
      · have := b6 q q1 q2 z
        omega
      · have hag := rkN_inj t q p (fun j hj => q1 j (by omega)) (fun j hj => hp j (by omega)) z
        have hcq : cntP (tcF cl) q 9 = cntP (tcF cl) q t := by rw [q3, hth, cntP_cg t hag]
        have hnq := cntP_same t 9 ht hcq
        rw [rkN_cg 9 (p := pnN (tcF cl) p t) (q := q) (fun j hj => ?_)]
        · exact Nat.le_refl _
        · by_cases e : j < t
          · rw [hpn j e, hag j e]
          · have a1 := hnq j (by omega) hj
            have a2 := q1 j hj
            rw [hpc j (by omega)]; omega
      · refine Nat.le_of_lt (rkN_mono hok t 9 ht (Nat.le_refl _) ?_)
        rw [rkN_cg t hpn]; exact z
    · have := b6 q q1 q2 q3
      omega
  · rw [if_neg hl]
    exact ⟨⟨b, b1, b2, b3, b4, b5, b6⟩, rfl, Int32.not_lt.mp hl⟩
theorem chF_ok {fo cl wd br : Nat → Int32} (hs : syF fo) (hw : ∀ t i, t < 9 → i < tcF cl t → w16 (wd (t * 4 + i)) ∧ br (t * 4 + i) = foeF fo (wd (t * 4 + i)) 16) : ∀ n t th (bars : Int32) (s : chS) (p : Nat → Nat), n + t = 9 → pkO (tcF cl) p → th = cntP (tcF cl) p t → brR fo bars (allP (tcF cl) p wd t) → qui fo (allP (tcF cl) p wd t) → (∀ j, j < t → s.1 j = rpI (tcF cl) p j) → bst fo cl wd t (rkN (tcF cl) p t) s →
    bst fo cl wd t (rkN (tcF cl) p t + 1) (chF cl wd br n t th bars s) ∧ ∀ j, j < t → (chF cl wd br n t th bars s).1 j = s.1 j := by
  intro n
  induction n with
  | zero =>
    intro t th bars s p hnt hp hth hb hq htr h
    obtain ⟨k1, k2, k3⟩ := chK_ok (by omega) hp hth hq htr h
    rw [chF]
    refine ⟨?_, fun j _ => by rw [k2]⟩
    obtain ⟨b, b1, b2, b3, b4, b5, b6⟩ := k1
    refine ⟨b, b1, b2, b3, b4, b5, fun q q1 q2 q3 => ?_⟩
    by_cases e : rkN (tcF cl) q t < rkN (tcF cl) p t
    · exact b6 q q1 q2 e
    · have hag := rkN_inj t q p (fun j hj => q1 j (by omega)) (fun j hj => hp j (by omega)) (by omega)
      have h9 : t = 9 := by omega
      subst h9
      have a1 := cntP_le (tcF cl) p 9
      have a2 := cntP_le (tcF cl) b 9
      rw [b2, Int32.le_iff_toInt_le, nI_toInt (by omega), nI_toInt (by omega)] at k3
      rw [cntP_cg 9 hag]
      omega
  | succ n ih =>
    intro t th bars s p hnt hp hth hb hq htr h
    obtain ⟨k1, k2, k3⟩ := chK_ok (by omega) hp hth hq htr h
    rw [chF, chB]
    have hth9 := cntP_le (tcF cl) p t
    by_cases hf : nI (th + frA cl wd br bars (9 - t) t 0) ≤ (chK t th s).2.2
    · rw [if_pos hf]
      refine ⟨?_, fun j _ => by rw [k2]⟩
      obtain ⟨b, b1, b2, b3, b4, b5, b6⟩ := k1
      refine ⟨b, b1, b2, b3, b4, b5, fun q q1 q2 q3 => ?_⟩
      by_cases e : rkN (tcF cl) q t < rkN (tcF cl) p t
      · exact b6 q q1 q2 e
      · have hag := rkN_inj t q p (fun j hj => q1 j (by omega)) (fun j hj => hp j (by omega)) (by omega)
        have hfr := frA_ge (cl := cl) (wd := wd) (br := br) (bars := bars) (q := q) (9 - t) t 0 (fun j j1 j2 j3 => by
          obtain ⟨w1, w2⟩ := hw j (q j) (by omega) j3
          refine may_of w1 hb w2 q2 (fun i hi => ?_) (fun i hi => allP_in (by omega) j3 hi)
          rw [← allP_cg t hag] at hi
          exact allP_sub t 9 (by omega) hi)
        have a2 := cntP_le (tcF cl) b 9
        have a3 := frA_le cl wd br bars (9 - t) t 0
        rw [show t + (9 - t) = 9 by omega, cntP_cg t hag, ← hth] at hfr
        rw [b2, Int32.le_iff_toInt_le, nI_toInt (by omega), nI_toInt (by omega)] at hf
        omega
    · rw [if_neg hf]
      have up : ∀ q, pkO (tcF cl) q → rkN (tcF cl) q (t + 1) = rkN (tcF cl) q t * (tcF cl t + 1) + q t := fun q _ => rfl
      have start : bst fo cl wd (t + 1) (rkN (tcF cl) p t * (tcF cl t + 1) + 0) (chK t th s) := by
        obtain ⟨b, b1, b2, b3, b4, b5, b6⟩ := k1
        refine ⟨b, b1, b2, b3, b4, b5, fun q q1 q2 q3 => b6 q q1 q2 (Nat.not_le.mp (fun z => ?_))⟩
        have := Nat.mul_le_mul_right (tcF cl t + 1) z
        rw [rkN] at q3
        omega
      have loop := foldF_ix (g := chO (chF cl wd br n (t + 1)) wd br t th bars) (I := fun i s' => bst fo cl wd (t + 1) (rkN (tcF cl) p t * (tcF cl t + 1) + i) s' ∧ ∀ j, j < t → s'.1 j = rpI (tcF cl) p j) (tcF cl t) 0 (chK t th s) ⟨start, fun j hj => by rw [k2]; exact htr j hj⟩ (fun s' i _ hi hI => by
        obtain ⟨i1, i2⟩ := hI
        have hi' : i < tcF cl t := by omega
        obtain ⟨w1, w2⟩ := hw t i (by omega) hi'
        have hpt : ∀ j, j < t → updN p t i j = p j := updN_lt (Nat.le_refl _)
        have hpe : updN p t i t = i := if_pos rfl
        have hpk : pkO (tcF cl) (updN p t i) := fun j hj => by
          by_cases e : j = t
          · subst e; rw [hpe]; omega
          · rw [show updN p t i j = p j from if_neg e]; exact hp j hj
        have hrk : rkN (tcF cl) (updN p t i) (t + 1) = rkN (tcF cl) p t * (tcF cl t + 1) + i := by rw [rkN, rkN_cg t hpt, hpe]
        have hal : allP (tcF cl) (updN p t i) wd (t + 1) = allP (tcF cl) p wd t ||| wd (t * 4 + i) := by rw [allP, allP_cg t hpt, hpe, if_pos hi']
        unfold chO
        by_cases hm : mayF wd br (t * 4 + i) bars = true
        · rw [if_pos hm]
          obtain ⟨m1, m2⟩ := may_yes hs w1 hb w2 hq hm
          have r := ih (t + 1) (th + 1) (bars ||| br (t * 4 + i)) (upd s'.1 t (nI i), s'.2.1, s'.2.2) (updN p t i) (by omega) hpk (by rw [cntP, cntP_cg t hpt, hpe, if_pos hi', hth]) (by rw [hal]; exact m2) (by rw [hal]; exact m1) (fun j hj => by
            show upd s'.1 t (nI i) j = _
            by_cases e : j = t
            · subst e; rw [upd_eq]; unfold rpI; rw [hpe, if_pos hi']
            · rw [upd_ne e, i2 j (by omega)]; unfold rpI; rw [hpt j (by omega)]) (by rw [hrk]; exact i1)
          rw [hrk] at r
          refine ⟨r.1, fun j hj => ?_⟩
          rw [r.2 j (by omega)]
          show upd s'.1 t (nI i) j = _
          rw [upd_ne (by omega)]; exact i2 j hj
        · rw [if_neg hm]
          refine ⟨?_, i2⟩
          obtain ⟨b, b1, b2, b3, b4, b5, b6⟩ := i1
          refine ⟨b, b1, b2, b3, b4, b5, fun q q1 q2 q3 => ?_⟩
          by_cases e : rkN (tcF cl) q (t + 1) < rkN (tcF cl) p t * (tcF cl t + 1) + i
          · exact b6 q q1 q2 e
          · have hag := rkN_inj (t + 1) q (updN p t i) (fun j hj => q1 j (by omega)) (fun j hj => hpk j (by omega)) (by rw [hrk]; omega)
            refine absurd (may_of (br := br) w1 hb w2 q2 (fun j hj => ?_) (fun j hj => ?_)) hm
            · refine allP_sub (t + 1) 9 (by omega) ?_
              rw [allP_cg (t + 1) hag, hal, bt_or, hj, Bool.true_or]
            · refine allP_sub (t + 1) 9 (by omega) ?_
              rw [allP_cg (t + 1) hag, hal, bt_or, hj, Bool.or_true])
      rw [Nat.zero_add] at loop
      generalize foldF (chO (chF cl wd br n (t + 1)) wd br t th bars) 0 (tcF cl t) (chK t th s) = s' at *
      obtain ⟨i1, i2⟩ := loop
      unfold chE
      have hpt : ∀ j, j < t → updN p t (tcF cl t) j = p j := updN_lt (Nat.le_refl _)
      have hpe : updN p t (tcF cl t) t = tcF cl t := if_pos rfl
      have hpk : pkO (tcF cl) (updN p t (tcF cl t)) := fun j hj => by
        by_cases e : j = t
        · subst e; rw [hpe]; exact Nat.le_refl _
        · rw [show updN p t (tcF cl t) j = p j from if_neg e]; exact hp j hj
      have hrk : rkN (tcF cl) (updN p t (tcF cl t)) (t + 1) = rkN (tcF cl) p t * (tcF cl t + 1) + tcF cl t := by rw [rkN, rkN_cg t hpt, hpe]
      have hal : allP (tcF cl) (updN p t (tcF cl t)) wd (t + 1) = allP (tcF cl) p wd t := by rw [allP, allP_cg t hpt, hpe, if_neg (Nat.lt_irrefl _), I_or0]
      have r := ih (t + 1) th bars (upd s'.1 t (-2), s'.2.1, s'.2.2) (updN p t (tcF cl t)) (by omega) hpk (by rw [cntP, cntP_cg t hpt, hpe, if_neg (Nat.lt_irrefl _), hth]; rfl) (by rw [hal]; exact hb) (by rw [hal]; exact hq) (fun j hj => by
        show upd s'.1 t (-2) j = _
        by_cases e : j = t
        · subst e; rw [upd_eq]; unfold rpI; rw [hpe, if_neg (Nat.lt_irrefl _)]
        · rw [upd_ne e, i2 j (by omega)]; unfold rpI; rw [hpt j (by omega)]) (by rw [hrk]; exact i1)
      rw [hrk] at r
      refine ⟨?_, fun j hj => ?_⟩
      · obtain ⟨b, b1, b2, b3, b4, b5, b6⟩ := r.1
        refine ⟨b, b1, b2, b3, b4, b5, fun q q1 q2 q3 => b6 q q1 q2 ?_⟩
        rw [rkN]
        have := Nat.mul_le_mul_right (tcF cl t + 1) (Nat.le_of_lt_succ q3)
        have := q1 t (by omega)
        omega
      · rw [r.2 j (by omega)]
        show upd s'.1 t (-2) j = _
        rw [upd_ne (by omega), i2 j hj, htr j hj]
/-- the whole search -/
theorem chF_all {fo cl wd br tr ch : Nat → Int32} (hs : syF fo) (hw : ∀ t i, t < 9 → i < tcF cl t → w16 (wd (t * 4 + i)) ∧ br (t * 4 + i) = foeF fo (wd (t * 4 + i)) 16) : bst fo cl wd 0 1 (chF cl wd br 9 0 0 0 (tr, zf (-2) ch 9, 0)) := by
  have hno : ∀ j, 0 ≤ j → j < 9 → ¬ tcF cl j < tcF cl j := fun j _ _ => Nat.lt_irrefl _
  refine (chF_ok hs hw 9 0 0 0 (tr, zf (-2) ch 9, 0) (tcF cl) rfl (fun j _ => Nat.le_refl _) rfl (fun j _ => ⟨fun h => (by rw [bt_0] at h; cases h), fun ⟨a, _, h, _⟩ => (by rw [allP, bt_0] at h; cases h)⟩) (fun a b _ _ _ h _ => by rw [allP, bt_0] at h; cases h) (fun j hj => absurd hj (Nat.not_lt_zero j)) ?_).1
  have hc0 : cntP (tcF cl) (tcF cl) 9 = 0 := by rw [cntP_none 0 9 (by omega) hno]; rfl
  refine ⟨tcF cl, fun j _ => Nat.le_refl _, by rw [hc0]; rfl, fun j hj => ?_, ?_, fun q q1 q2 q3 => ?_, fun q q1 q2 q3 => absurd q3 (Nat.not_lt_zero _)⟩
  · show zf (-2) ch 9 j = _
    unfold rpI
    rw [zf, if_pos hj, if_neg (Nat.lt_irrefl _)]
  · rw [allP_none 0 9 (by omega) hno]
    exact fun a b _ _ _ h _ => by rw [allP, bt_0] at h; cases h
  · rw [hc0] at q3
    have hnq := cntP_same (c := tcF cl) (p := q) 0 9 (by omega) q3
    rw [rkN_cg 9 (p := tcF cl) (q := q) (fun j hj => by
      have a1 := hnq j (by omega) hj
      have a2 := q1 j hj
      omega)]
    exact Nat.le_refl _
/-- quarrels as a list, and as rows of bits -/
def foR (fo : Nat → Int32) (q1 q2 : Nat → Int32) (n : Nat) : Prop := (∀ q, q < n → ∃ a b, a < 16 ∧ b < 16 ∧ q1 q = nI a ∧ q2 q = nI b) ∧ ∀ a b, a < 16 → b < 16 → (bt (fo a) b = true ↔ ∃ q, q < n ∧ ((q1 q = nI a ∧ q2 q = nI b) ∨ (q1 q = nI b ∧ q2 q = nI a)))
theorem foR_sy {fo q1 q2 : Nat → Int32} {n : Nat} (h : foR fo q1 q2 n) : syF fo := fun a b ha hb hf => by
  obtain ⟨q, hq, z⟩ := (h.2 a b ha hb).mp hf
  exact (h.2 b a hb ha).mpr ⟨q, hq, z.elim Or.inr Or.inl⟩
theorem foR_qt {fo q1 q2 : Nat → Int32} {n : Nat} (h : foR fo q1 q2 n) (x : Int32) : qtP q1 q2 n x = true ↔ qui fo x := by
  unfold qtP
  rw [allF_iff]
  refine ⟨fun h1 a b ha hb hf b1 b2 => ?_, fun h1 q _ hq => ?_⟩
  · obtain ⟨q, hq, z⟩ := (h.2 a b ha hb).mp hf
    have h2 := h1 q (Nat.zero_le _) (by omega)
    rcases z with ⟨z1, z2⟩ | ⟨z1, z2⟩
    · rw [z1, z2, decide_eq_true ((bit_1 (by omega) x).mpr b1), decide_eq_true ((bit_1 (by omega) x).mpr b2)] at h2
      cases h2
    · rw [z1, z2, decide_eq_true ((bit_1 (by omega) x).mpr b1), decide_eq_true ((bit_1 (by omega) x).mpr b2)] at h2
      cases h2
  · obtain ⟨a, b, ha, hb, z1, z2⟩ := h.1 q (by omega)
    rw [z1, z2]
    cases e1 : bt x a with
    | false => rw [decide_eq_false (fun z => by rw [(bit_1 (by omega) x).mp z] at e1; cases e1)]; rfl
    | true =>
      cases e2 : bt x b with
      | false => rw [decide_eq_false (p := (x >>> (nI b &&& 31)) &&& 1 = 1) (fun z => by rw [(bit_1 (by omega) x).mp z] at e2; cases e2), Bool.and_false]; rfl
      | true => exact (h1 a b ha hb ((h.2 a b ha hb).mpr ⟨q, by omega, Or.inl ⟨z1, z2⟩⟩) e1 e2).elim
theorem foR_add {fo q1 q2 : Nat → Int32} {n a b : Nat} (h : foR fo q1 q2 n) (ha : a < 16) (hb : b < 16) : foR (foesQ fo a b) (upd q1 n (nI a)) (upd q2 n (nI b)) (n + 1) := by
  refine ⟨fun q hq => ?_, fun i j hi hj => ?_⟩
  · by_cases e : q = n
    · subst e; rw [upd_eq, upd_eq]; exact ⟨a, b, ha, hb, rfl, rfl⟩
    · rw [upd_ne e, upd_ne e]; exact h.1 q (by omega)
  · have hx : bt (foesQ fo a b i) j = (bt (fo i) j || ((decide (i = a) && decide (b = j)) || (decide (i = b) && decide (a = j)))) := by
      unfold foesQ
      by_cases e1 : i = b
      · subst e1
        rw [upd_eq]
        by_cases e2 : i = a
        · subst e2
          rw [upd_eq, bt_or, bt_or, bt_shl (by omega)]
          simp
        · rw [upd_ne e2, bt_or, bt_shl (by omega), decide_eq_false e2, decide_eq_true rfl]
          simp
      · rw [upd_ne e1]
        by_cases e2 : i = a
        · subst e2
          rw [upd_eq, bt_or, bt_shl (by omega), decide_eq_false e1, decide_eq_true rfl]
          simp
        · rw [upd_ne e2, decide_eq_false e1, decide_eq_false e2]
          simp
    rw [hx, Bool.or_eq_true, h.2 i j hi hj, Bool.or_eq_true, Bool.and_eq_true, Bool.and_eq_true]
    simp only [decide_eq_true_eq]
    refine ⟨fun z => ?_, fun ⟨q, hq, z⟩ => ?_⟩
    · rcases z with ⟨q, hq, z⟩ | z
      · exact ⟨q, by omega, by rw [upd_ne (show q ≠ n by omega), upd_ne (show q ≠ n by omega)]; exact z⟩
      · refine ⟨n, by omega, ?_⟩
        rw [upd_eq, upd_eq]
        rcases z with ⟨z1, z2⟩ | ⟨z1, z2⟩
        · exact Or.inl ⟨by rw [z1], by rw [z2]⟩
        · exact Or.inr ⟨by rw [z2], by rw [z1]⟩
    · by_cases e : q = n
      · subst e
        rw [upd_eq, upd_eq] at z
        refine Or.inr ?_
        rcases z with ⟨z1, z2⟩ | ⟨z1, z2⟩
        · exact Or.inl ⟨(nI_inj (by omega) (by omega) z1).symm, nI_inj (by omega) (by omega) z2⟩
        · exact Or.inr ⟨(nI_inj (by omega) (by omega) z2).symm, nI_inj (by omega) (by omega) z1⟩
      · rw [upd_ne e, upd_ne e] at z
        exact Or.inl ⟨q, by omega, z⟩
/-- THE CLAUSES: what the search keeps is what the reference finds -/
theorem sign_ag {fo cl wd : Nat → Int32} {V : VT} {s : chS} {m : Int32} {be : Nat → Int32} (e1 : V.1 = cl) (e2 : V.2.1 = wd) (hv : vOk V) (hf : foR fo V.2.2.1 V.2.2.2.1 V.2.2.2.2.2.2) (h : bst fo cl wd 0 1 s) (hb : bsI V (totN (tcF V.1) 9) m be) :
    s.2.2 = m ∧ ∀ t, t < 9 → s.2.1 t = if be t < V.1 t then be t else -2 := by
  subst e1 e2
  have hq : ∀ p, tqB V p = true ↔ qui fo (allP (tcF V.1) p V.2.1 9) := fun p => foR_qt hf _
  obtain ⟨b, b1, b2, b3, b4, b5, b6⟩ := h
  rcases hb with ⟨-, z⟩ | ⟨b', c1, c2, c3, c4, c5, c6⟩
  · have := z b b1 (rkN_lt 9 b b1)
    rw [(hq b).mpr b4] at this
    cases this
  · have a1 := b6 b' c3 ((hq b').mp c4) (by rw [rkN]; omega)
    have a2 := c6 b b1 ((hq b).mpr b4) (rkN_lt 9 b b1)
    have a3 : cntP (tcF V.1) b' 9 = cntP (tcF V.1) b 9 := by omega
    have a4 := b5 b' c3 ((hq b').mp c4) a3
    have a5 : rkN (tcF V.1) b 9 = rkN (tcF V.1) b' 9 := by
      rcases a2 with z | z <;> omega
    have a6 := rkN_inj 9 b b' b1 c3 a5
    refine ⟨by rw [b2, c1, a3], fun t ht => ?_⟩
    rw [b3 t ht, c2 t ht, (hv t ht).1]
    unfold rpI
    have h4 := (hv t ht).2
    have h5 := c3 t ht
    rw [a6 t ht]
    by_cases e : b' t < tcF V.1 t
    · rw [if_pos e, if_pos (nI_lt e (by omega))]
    · rw [if_neg e, if_neg (nI_nlt (by omega) (by omega))]

