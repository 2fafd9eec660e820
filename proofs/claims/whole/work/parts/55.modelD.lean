def cntP (c p : Nat → Nat) : Nat → Nat
  | 0 => 0
  | t + 1 => cntP c p t + (if p t < c t then 1 else 0)
def allP (c p : Nat → Nat) (wd : Nat → Int32) : Nat → Int32
  | 0 => 0
  | t + 1 => allP c p wd t ||| (if p t < c t then wd (t * 4 + p t) else 0)
def qtP (q1 q2 : Nat → Int32) (n : Nat) (al : Int32) : Bool := allF (fun q => !(decide ((al >>> (q1 q &&& 31)) &&& 1 = 1) && decide ((al >>> (q2 q &&& 31)) &&& 1 = 1))) 0 n
def rkN (c p : Nat → Nat) : Nat → Nat
  | 0 => 0
  | t + 1 => rkN c p t * (c t + 1) + p t
def totN (c : Nat → Nat) : Nat → Nat
  | 0 => 1
  | t + 1 => totN c t * (c t + 1)
def updN (p : Nat → Nat) (i v : Nat) : Nat → Nat := fun j => if j = i then v else p j
def trnN (c : Nat → Nat) : Nat → (Nat → Nat) → Bool × (Nat → Nat)
  | 0, p => (false, p)
  | t + 1, p => if p t + 1 ≤ c t then (true, updN p t (p t + 1)) else trnN c t (updN p t 0)
theorem rkN_cg {c p q : Nat → Nat} : ∀ n, (∀ t, t < n → p t = q t) → rkN c p n = rkN c q n
  | 0, _ => rfl
  | n + 1, h => by rw [rkN, rkN, rkN_cg n (fun t ht => h t (by omega)), h n (by omega)]
theorem cntP_cg {c p q : Nat → Nat} : ∀ n, (∀ t, t < n → p t = q t) → cntP c p n = cntP c q n
  | 0, _ => rfl
  | n + 1, h => by rw [cntP, cntP, cntP_cg n (fun t ht => h t (by omega)), h n (by omega)]
theorem allP_cg {c p q : Nat → Nat} {wd : Nat → Int32} : ∀ n, (∀ t, t < n → p t = q t) → allP c p wd n = allP c q wd n
  | 0, _ => rfl
  | n + 1, h => by rw [allP, allP, allP_cg n (fun t ht => h t (by omega)), h n (by omega)]
theorem updN_lt {p : Nat → Nat} {i v n : Nat} (h : n ≤ i) : ∀ t, t < n → updN p i v t = p t := fun t ht => if_neg (by omega)
theorem trnN_ge {c : Nat → Nat} : ∀ (n : Nat) (p : Nat → Nat) (t : Nat), n ≤ t → (trnN c n p).2 t = p t
  | 0, p, t, _ => rfl
  | n + 1, p, t, h => by
    rw [trnN]
    split
    · exact if_neg (by omega)
    · rw [trnN_ge n _ t (by omega)]
      exact if_neg (by omega)
theorem trnN_ok {c : Nat → Nat} : ∀ (n : Nat) (p : Nat → Nat), (∀ t, t < n → p t ≤ c t) → (∀ t, t < n → (trnN c n p).2 t ≤ c t) ∧ ((trnN c n p).1 = true → rkN c (trnN c n p).2 n = rkN c p n + 1) ∧ ((trnN c n p).1 = false → rkN c p n + 1 = totN c n)
  | 0, p, _ => ⟨fun t ht => absurd ht (Nat.not_lt_zero t), (fun h => by cases h), fun _ => rfl⟩
  | n + 1, p, h => by
    rw [trnN]
    split
    · next hc =>
      refine ⟨fun t ht => ?_, fun _ => ?_, fun z => by cases z⟩
      · show updN p n (p n + 1) t ≤ c t
        unfold updN
        split
        · next e => rw [e]; exact hc
        · exact h t ht
      · show rkN c (updN p n (p n + 1)) (n + 1) = _
        rw [rkN, rkN, rkN_cg n (updN_lt (Nat.le_refl n))]
        show rkN c p n * (c n + 1) + (if n = n then p n + 1 else p n) = _
        rw [if_pos rfl]; omega
    · next hc =>
      have hpn : p n = c n := by have := h n (by omega); omega
      obtain ⟨i1, i2, i3⟩ := trnN_ok n (updN p n 0) (fun t ht => by rw [updN_lt (Nat.le_refl n) t ht]; exact h t (by omega))
      have e0 : (trnN c n (updN p n 0)).2 n = 0 := by rw [trnN_ge n _ n (Nat.le_refl _)]; exact if_pos rfl
      have e1 : rkN c (updN p n 0) n = rkN c p n := rkN_cg n (updN_lt (Nat.le_refl n))
      refine ⟨fun t ht => ?_, fun z => ?_, fun z => ?_⟩
      · by_cases e : t = n
        · subst e; rw [e0]; omega
        · exact i1 t (by omega)
      · have := i2 z
        rw [rkN, rkN, this, e0, e1, hpn, Nat.add_mul]; omega
      · have := i3 z
        rw [e1] at this
        rw [rkN, totN, ← this, hpn, Nat.add_mul]; omega
theorem rkN_lt {c : Nat → Nat} : ∀ (n : Nat) (p : Nat → Nat), (∀ t, t < n → p t ≤ c t) → rkN c p n < totN c n
  | 0, p, _ => Nat.zero_lt_one
  | n + 1, p, h => by
    have ih := rkN_lt n p (fun t ht => h t (by omega))
    have hn := h n (by omega)
    rw [rkN, totN]
    have : (rkN c p n + 1) * (c n + 1) ≤ totN c n * (c n + 1) := Nat.mul_le_mul_right _ ih
    rw [Nat.add_mul] at this
    omega
theorem rkN_inj {c : Nat → Nat} : ∀ (n : Nat) (p q : Nat → Nat), (∀ t, t < n → p t ≤ c t) → (∀ t, t < n → q t ≤ c t) → rkN c p n = rkN c q n → ∀ t, t < n → p t = q t
  | 0, p, q, _, _, _, t, ht => absurd ht (Nat.not_lt_zero t)
  | n + 1, p, q, hp, hq, he, t, ht => by
    rw [rkN, rkN] at he
    have h1 := hp n (by omega)
    have h2 := hq n (by omega)
    have e1 : p n = q n := by
      have a1 : (rkN c p n * (c n + 1) + p n) % (c n + 1) = p n := by rw [Nat.mul_comm, Nat.mul_add_mod, Nat.mod_eq_of_lt (by omega)]
      have a2 : (rkN c q n * (c n + 1) + q n) % (c n + 1) = q n := by rw [Nat.mul_comm, Nat.mul_add_mod, Nat.mod_eq_of_lt (by omega)]
      rw [← a1, he, a2]
    have e2 : rkN c p n = rkN c q n := by
      rw [e1] at he
      exact Nat.eq_of_mul_eq_mul_right (Nat.succ_pos (c n)) (Nat.add_right_cancel he)
    by_cases e : t = n
    · rw [e]; exact e1
    · exact rkN_inj n p q (fun t ht => hp t (by omega)) (fun t ht => hq t (by omega)) e2 t (by omega)
def pkO (c p : Nat → Nat) : Prop := ∀ t, t < 9 → p t ≤ c t
def pkA (pi : Nat → Int32) (p : Nat → Nat) : Prop := ∀ t, t < 9 → pi t = nI (p t)
def tqB (V : VT) (p : Nat → Nat) : Bool := qtP V.2.2.1 V.2.2.2.1 V.2.2.2.2.2.2 (allP (tcF V.1) p V.2.1 9)
def bsI (V : VT) (r : Nat) (m : Int32) (be : Nat → Int32) : Prop :=
  (m = -1 ∧ ∀ q, pkO (tcF V.1) q → rkN (tcF V.1) q 9 < r → tqB V q = false) ∨
  ∃ b, m = nI (cntP (tcF V.1) b 9) ∧ pkA be b ∧ pkO (tcF V.1) b ∧ tqB V b = true ∧ rkN (tcF V.1) b 9 < r ∧ ∀ q, pkO (tcF V.1) q → tqB V q = true → rkN (tcF V.1) q 9 < r → cntP (tcF V.1) q 9 < cntP (tcF V.1) b 9 ∨ (cntP (tcF V.1) q 9 = cntP (tcF V.1) b 9 ∧ rkN (tcF V.1) b 9 ≤ rkN (tcF V.1) q 9)
theorem cntP_le (c p : Nat → Nat) : ∀ n, cntP c p n ≤ n
  | 0 => Nat.le_refl _
  | n + 1 => by
    have := cntP_le c p n
    rw [cntP]; split <;> omega
theorem tqB_cg {V : VT} {p q : Nat → Nat} (h : ∀ t, t < 9 → p t = q t) : tqB V p = tqB V q := by unfold tqB; rw [allP_cg 9 h]
/-- what is not better than the best so far leaves it as it is -/
theorem bsI_no {V : VT} {p : Nat → Nat} {m : Int32} {be : Nat → Int32} (hp : pkO (tcF V.1) p) (h : bsI V (rkN (tcF V.1) p 9) m be) (hn : nI (cntP (tcF V.1) p 9) ≤ m ∨ tqB V p = false) : bsI V (rkN (tcF V.1) p 9 + 1) m be := by
  have hc := cntP_le (tcF V.1) p 9
  rcases h with ⟨h1, h2⟩ | ⟨b, h1, h2, h3, h4, h5, h6⟩
  · refine Or.inl ⟨h1, fun q hq hr => ?_⟩
    by_cases e : rkN (tcF V.1) q 9 = rkN (tcF V.1) p 9
    · have e2 := rkN_inj 9 q p hq hp e
      rw [tqB_cg e2]
      rcases hn with hn | hn
      · rw [h1] at hn
        exact absurd hn (Int32.not_le.mpr (by
          rw [Int32.lt_iff_toInt_lt, nI_toInt (by omega), show (-1 : Int32).toInt = -1 by decide]; omega))
      · exact hn
    · exact h2 q hq (by omega)
  · refine Or.inr ⟨b, h1, h2, h3, h4, by omega, fun q hq hqt hr => ?_⟩
    by_cases e : rkN (tcF V.1) q 9 = rkN (tcF V.1) p 9
    · have e2 := rkN_inj 9 q p hq hp e
      rw [tqB_cg e2] at hqt
      rcases hn with hn | hn
      · rw [h1] at hn
        have hb := cntP_le (tcF V.1) b 9
        have := le_of_nI (by omega) (by omega) hn
        rw [cntP_cg 9 e2]
        rcases Nat.lt_or_eq_of_le this with z | z
        · exact Or.inl z
        · exact Or.inr ⟨z, by omega⟩
      · rw [hn] at hqt; cases hqt
    · exact h6 q hq hqt (by omega)
theorem bsI_yes {V : VT} {p : Nat → Nat} {m : Int32} {be be' : Nat → Int32} (hp : pkO (tcF V.1) p) (hb : pkA be' p) (h : bsI V (rkN (tcF V.1) p 9) m be) (hn : ¬ nI (cntP (tcF V.1) p 9) ≤ m) (hq : tqB V p = true) : bsI V (rkN (tcF V.1) p 9 + 1) (nI (cntP (tcF V.1) p 9)) be' := by
  refine Or.inr ⟨p, rfl, hb, hp, hq, Nat.lt_succ_self _, fun q hq hqt hr => ?_⟩
  have hc := cntP_le (tcF V.1) p 9
  by_cases e : rkN (tcF V.1) q 9 = rkN (tcF V.1) p 9
  · have e2 := rkN_inj 9 q p hq hp e
    exact Or.inr ⟨cntP_cg 9 e2, by omega⟩
  · rcases h with ⟨h1, h2⟩ | ⟨b, h1, h2, h3, h4, h5, h6⟩
    · have := h2 q hq (by omega)
      rw [this] at hqt; cases hqt
    · have hb := cntP_le (tcF V.1) b 9
      rw [h1] at hn
      have hlt := lt_of_nI (a := cntP (tcF V.1) b 9) (b := cntP (tcF V.1) p 9) (by omega) (by omega) hn
      rcases h6 q hq hqt (by omega) with z | z
      · exact Or.inl (by omega)
      · exact Or.inl (by omega)
def vPk (V : VT) (pi : Nat → Int32) : VT := (V.1, V.2.1, V.2.2.1, V.2.2.2.1, pi, V.2.2.2.2.2)
def vPB (V : VT) (pi be : Nat → Int32) : VT := (V.1, V.2.1, V.2.2.1, V.2.2.2.1, pi, be, V.2.2.2.2.2.2)

def tX14_isQuiet : List q_I := [(0, .iconst 0, 1, 0, 0), (1, .istore_n 1, 1, 0, 0), (2, .iconst 0, 1, 0, 0), (3, .istore_n 2, 1, 0, 0), (4, .iload_n 2, 1, 0, 0), (5, .bipush 9, 2, 9, 0), (7, .if_icmp .ge 46, 3, 0, 53), (10, .iload_n 1, 1, 0, 0), (11, .aload_n 0, 1, 0, 0), (12, .getfield 108, 3, 0, 0), (15, .iload_n 2, 1, 0, 0), (16, .iaload, 1, 0, 0), (17, .aload_n 0, 1, 0, 0), (18, .getfield 96, 3, 0, 0), (21, .iload_n 2, 1, 0, 0), (22, .iaload, 1, 0, 0), (23, .if_icmp .ge 21, 3, 0, 44), (26, .aload_n 0, 1, 0, 0), (27, .getfield 99, 3, 0, 0), (30, .iconst 4, 1, 4, 0), (31, .iload_n 2, 1, 0, 0), (32, .imul, 1, 0, 0), (33, .aload_n 0, 1, 0, 0), (34, .getfield 108, 3, 0, 0), (37, .iload_n 2, 1, 0, 0), (38, .iaload, 1, 0, 0), (39, .iadd, 1, 0, 0), (40, .iaload, 1, 0, 0), (41, .goto 4, 3, 0, 45), (44, .iconst 0, 1, 0, 0), (45, .ior, 1, 0, 0), (46, .istore_n 1, 1, 0, 0), (47, .iinc 2 1, 3, 1, 0), (50, .goto (-46), 3, 0, 4), (53, .iconst 0, 1, 0, 0), (54, .istore_n 2, 1, 0, 0), (55, .iload_n 2, 1, 0, 0), (56, .aload_n 0, 1, 0, 0), (57, .getfield 391, 3, 0, 0), (60, .if_icmp .ge 39, 3, 0, 99), (63, .iload_n 1, 1, 0, 0), (64, .aload_n 0, 1, 0, 0), (65, .getfield 102, 3, 0, 0), (68, .iload_n 2, 1, 0, 0), (69, .iaload, 1, 0, 0), (70, .ishr, 1, 0, 0), (71, .iconst 1, 1, 1, 0), (72, .iand, 1, 0, 0), (73, .iconst 1, 1, 1, 0), (74, .if_icmp .ne 19, 3, 0, 93), (77, .iload_n 1, 1, 0, 0), (78, .aload_n 0, 1, 0, 0), (79, .getfield 105, 3, 0, 0), (82, .iload_n 2, 1, 0, 0), (83, .iaload, 1, 0, 0), (84, .ishr, 1, 0, 0), (85, .iconst 1, 1, 1, 0), (86, .iand, 1, 0, 0), (87, .iconst 1, 1, 1, 0), (88, .if_icmp .ne 5, 3, 0, 93), (91, .iconst 0, 1, 0, 0), (92, .ireturn, 1, 0, 0), (93, .iinc 2 1, 3, 1, 0), (96, .goto (-41), 3, 0, 55), (99, .iconst 1, 1, 1, 0), (100, .ireturn, 1, 0, 0)]
theorem tX14_isQuiet_ok : (tX14_isQuiet.all (q_okI cX14_isQuiet)) = true := by decide +kernel

abbrev fdX14_isQuiet : List (Nat ⊕ (Nat × Nat)) := [.inl 0, .inr (0, 7), .inr (0, 17), .inr (0, 18), .inr (0, 19), .inr (0, 20), .inr (0, 21), .inr (0, 22), .inr (0, 23), .inr (0, 26), .inr (0, 27), .inr (0, 28), .inr (0, 31), .inr (0, 32), .inr (0, 33), .inr (0, 34), .inr (0, 36), .inr (0, 37), .inr (0, 38), .inr (0, 39), .inr (0, 40), .inr (0, 41), .inr (0, 43), .inr (0, 44), .inr (0, 45), .inr (0, 46), .inr (0, 47), .inr (0, 48), .inr (0, 50), .inr (0, 51), .inr (0, 52), .inr (0, 4), .inr (31, 0), .inr (31, 1), .inr (31, 2), .inr (31, 3), .inr (31, 8), .inr (31, 9), .inr (31, 10), .inr (31, 11), .inr (31, 12), .inr (31, 13), .inr (31, 14), .inr (31, 15), .inr (31, 16), .inr (31, 17), .inr (31, 18), .inr (31, 19), .inr (31, 20), .inr (31, 21), .inr (31, 22), .inr (31, 23), .inr (31, 24), .inr (31, 25), .inr (31, 26), .inr (31, 27), .inr (31, 28)]
def spX14_isQuiet : q_P := fun a w K => ∃ (th : Int32) (tr : Int32) (wh : Int32) (fa : Int32) (ta : Nat) (sz : Int32) (ix : Int32) (so : Int32) (pl : Int32) (nu : Int32) (wd : Int64) (td : Int32) (mk : Int32) (mo : Int32) (tx : Nat → Int32) (P : PT) (D : DT) (ea : Nat → Int32) (pa : Nat → Int32) (co : Nat → Int32) (S : ST) (Cc : CT) (V : VT) (ba : Nat → Int32) (B : BT) (R : RT) (L : LT) (G : GT) (p : Nat → Nat), w = (modelW 0 (tk 0 5) (tk 0 6) th tr wh fa ta sz ix so pl nu wd td mk mo tx P D ea pa co S Cc V ba B R L G) ∧ a = [.ref 0] ∧ vOk V ∧ V.2.2.2.2.2.2 ≤ 20 ∧ pkO (tcF V.1) p ∧ pkA V.2.2.2.2.1 p ∧ K (.inl (some (.int (bI (tqB V p))))) (modelW 0 (tk 0 5) (tk 0 6) th tr wh fa ta sz ix so pl nu wd td mk mo tx P D ea pa co S Cc V ba B R L G)
abbrev csX14_isQuiet : q_S := (1, 14, 0, 3, 0, 0, fdX14_isQuiet, spX14_isQuiet)
def EX14_isQuiet : q_E := (tX14_isQuiet, [(4, [0, 1, 2]), (55, [0, 1, 2])], 3, flX14, [], [], [], [], [], [], 0, 0, 0, (some .boolean), [], [], 0, 0)
theorem okX14_isQuiet (l : Launch) : q_Eok l RX14 cX14_isQuiet EX14_isQuiet := ⟨tX14_isQuiet_ok, flX14_ok, q_nil, q_nil, q_nil, q_nil, q_nil, q_nil, (fun h => absurd h (by decide))⟩
set_option maxRecDepth 100000 in
set_option maxHeartbeats 4000000 in
theorem ctX14_isQuiet (l : Launch) : q_CT l yX14_isQuiet (.code yX14_isQuiet cX14_isQuiet 3 (some .boolean)) 0 0 0 spX14_isQuiet := by
  refine q_ct_of EX14_isQuiet (by decide +kernel) (okX14_isQuiet l) rfl rfl rfl rfl rfl q_nil (fun ci h => by cases h) rfl ?_
  intro a w K h
  obtain ⟨th, tr, wh, fa, ta, sz, ix, so, pl, nu, wd, td, mk, mo, tx, P, D, ea, pa, co, S, Cc, V, ba, B, R, L, G, p, rfl, rfl, hv, hq, hp, ha, hK⟩ := h
  refine ⟨Nat.le_of_ble_eq_true rfl, fun C hC => ?_⟩
  have two : ∀ k j, j + k = V.2.2.2.2.2.2 → K (.inl (some (.int (bI (allF (fun q => !(decide ((allP (tcF V.1) p V.2.1 9 >>> (V.2.2.1 q &&& 31)) &&& 1 = 1) && decide ((allP (tcF V.1) p V.2.1 9 >>> (V.2.2.2.1 q &&& 31)) &&& 1 = 1))) j k))))) (modelW 0 (tk 0 5) (tk 0 6) th tr wh fa ta sz ix so pl nu wd td mk mo tx P D ea pa co S Cc V ba B R L G) → C 55 [(0, .ref 0), (1, .int (allP (tcF V.1) p V.2.1 9)), (2, .int (nI j))] [] (modelW 0 (tk 0 5) (tk 0 6) th tr wh fa ta sz ix so pl nu wd td mk mo tx P D ea pa co S Cc V ba B R L G) 0 0 := by
    intro k
    induction k with
    | zero =>
      intro j hj hK
      exact hC _ _ _ _ _ _ (And.intro (fun _ => ⟨rfl, hK⟩) (fun z => absurd (nI_le (by omega) (by omega)) z))
    | succ k ih =>
      intro j hj hK
      rw [allF] at hK
      have hvj : vp_in (nI j) 20 := vp_in_nI (by omega) (by omega)
      have hc : (nI j).toNatClampNeg = j := nI_clamp (by omega)
      have nx : (!(decide ((allP (tcF V.1) p V.2.1 9 >>> (V.2.2.1 j &&& 31)) &&& 1 = 1) && decide ((allP (tcF V.1) p V.2.1 9 >>> (V.2.2.2.1 j &&& 31)) &&& 1 = 1))) = true → C 55 [(0, .ref 0), (1, .int (allP (tcF V.1) p V.2.1 9)), (2, .int (nI j + 1))] [] (modelW 0 (tk 0 5) (tk 0 6) th tr wh fa ta sz ix so pl nu wd td mk mo tx P D ea pa co S Cc V ba B R L G) 0 0 := by
        intro e
        rw [e, Bool.true_and] at hK
        have h9 := ih (j + 1) (by omega) hK
        rw [nI_1]
        exact h9
      refine hC _ _ _ _ _ _ (And.intro (fun z => absurd z (nI_ge (by omega) (by omega))) (fun _ => ⟨hvj, And.intro (fun c => nx ?_) (fun c => ⟨hvj, And.intro (fun c2 => nx ?_) (fun c2 => ⟨rfl, ?_⟩)⟩)⟩))
      · rw [hc] at c
        rw [decide_eq_false c]; rfl
      · rw [hc] at c2
        rw [decide_eq_false c2, Bool.and_false]; rfl
      · rw [hc] at c c2
        rw [decide_eq_true c, decide_eq_true c2] at hK
        exact hK
  have one : ∀ k t, t + k = 9 → C 4 [(0, .ref 0), (1, .int (allP (tcF V.1) p V.2.1 t)), (2, .int (nI t))] [] (modelW 0 (tk 0 5) (tk 0 6) th tr wh fa ta sz ix so pl nu wd td mk mo tx P D ea pa co S Cc V ba B R L G) 0 0 := by
    intro k
    induction k with
    | zero =>
      intro t ht
      have ht : t = 9 := ht
      subst ht
      exact hC _ _ _ _ _ _ (And.intro (fun _ => two V.2.2.2.2.2.2 0 (by omega) hK) (fun z => absurd (show (9 : Int32) ≤ nI 9 by decide) z))
    | succ k ih =>
      intro t ht
      have h9 := ih (t + 1) (by omega)
      rw [allP, ← nI_1] at h9
      have hvt : vp_in (nI t) 9 := vp_in_nI (by omega) (by omega)
      have hc : (nI t).toNatClampNeg = t := nI_clamp (by omega)
      obtain ⟨o1, o2⟩ := hv t (by omega)
      have hpt := hp t (by omega)
      have hat := ha t (by omega)
      have e : 4 * nI t + V.2.2.2.2.1 (nI t).toNatClampNeg = nI (t * 4 + p t) := by rw [nI_4m, hc, hat, nI_add]
      refine hC _ _ _ _ _ _ (And.intro (fun z => absurd z (nI_ge (b := 9) (by omega) (by omega))) (fun _ => ⟨hvt, hvt, And.intro (fun c => ?_) (fun c => ?_)⟩))
      · rw [hc, hat, o1] at c
        rw [if_neg (Nat.not_lt.mpr (le_of_nI (by omega) (by omega) c))] at h9
        exact h9
      · rw [hc, hat, o1] at c
        have hlt := lt_of_nI (by omega) (by omega) c
        rw [if_pos hlt] at h9
        refine ⟨hvt, by rw [e]; exact vp_in_nI (by omega) (by omega), ?_⟩
        rw [e, show (nI (t * 4 + p t)).toNatClampNeg = t * 4 + p t from nI_clamp (by omega)]
        exact h9
  exact hC _ _ _ _ _ _ (one 9 0 (by omega))
def tX14_turns : List q_I := [(0, .bipush 8, 2, 8, 0), (2, .istore_n 1, 1, 0, 0), (3, .iload_n 1, 1, 0, 0), (4, .ifCond .lt 43, 3, 0, 47), (7, .aload_n 0, 1, 0, 0), (8, .getfield 108, 3, 0, 0), (11, .iload_n 1, 1, 0, 0), (12, .dup2, 1, 0, 0), (13, .iaload, 1, 0, 0), (14, .iconst 1, 1, 1, 0), (15, .iadd, 1, 0, 0), (16, .iastore, 1, 0, 0), (17, .aload_n 0, 1, 0, 0), (18, .getfield 108, 3, 0, 0), (21, .iload_n 1, 1, 0, 0), (22, .iaload, 1, 0, 0), (23, .aload_n 0, 1, 0, 0), (24, .getfield 96, 3, 0, 0), (27, .iload_n 1, 1, 0, 0), (28, .iaload, 1, 0, 0), (29, .if_icmp .gt 5, 3, 0, 34), (32, .iconst 1, 1, 1, 0), (33, .ireturn, 1, 0, 0), (34, .aload_n 0, 1, 0, 0), (35, .getfield 108, 3, 0, 0), (38, .iload_n 1, 1, 0, 0), (39, .iconst 0, 1, 0, 0), (40, .iastore, 1, 0, 0), (41, .iinc 1 (-1), 3, (-1), 0), (44, .goto (-41), 3, 0, 3), (47, .iconst 0, 1, 0, 0), (48, .ireturn, 1, 0, 0)]
theorem tX14_turns_ok : (tX14_turns.all (q_okI cX14_turns)) = true := by decide +kernel

abbrev fdX14_turns : List (Nat ⊕ (Nat × Nat)) := [.inl 0, .inr (0, 7), .inr (0, 17), .inr (0, 18), .inr (0, 19), .inr (0, 20), .inr (0, 21), .inr (0, 22), .inr (0, 23), .inr (0, 26), .inr (0, 27), .inr (0, 28), .inr (0, 31), .inr (0, 32), .inr (0, 33), .inr (0, 34), .inr (0, 36), .inr (0, 37), .inr (0, 38), .inr (0, 39), .inr (0, 40), .inr (0, 41), .inr (0, 43), .inr (0, 44), .inr (0, 45), .inr (0, 46), .inr (0, 47), .inr (0, 48), .inr (0, 50), .inr (0, 51), .inr (0, 52), .inr (0, 4), .inr (31, 0), .inr (31, 1), .inr (31, 2), .inr (31, 3), .inr (31, 8), .inr (31, 9), .inr (31, 10), .inr (31, 11), .inr (31, 12), .inr (31, 13), .inr (31, 14), .inr (31, 15), .inr (31, 16), .inr (31, 17), .inr (31, 18), .inr (31, 19), .inr (31, 20), .inr (31, 21), .inr (31, 22), .inr (31, 23), .inr (31, 24), .inr (31, 25), .inr (31, 26), .inr (31, 27), .inr (31, 28)]
def spX14_turns : q_P := fun a w K => ∃ (th : Int32) (tr : Int32) (wh : Int32) (fa : Int32) (ta : Nat) (sz : Int32) (ix : Int32) (so : Int32) (pl : Int32) (nu : Int32) (wd : Int64) (td : Int32) (mk : Int32) (mo : Int32) (tx : Nat → Int32) (P : PT) (D : DT) (ea : Nat → Int32) (pa : Nat → Int32) (co : Nat → Int32) (S : ST) (Cc : CT) (V : VT) (ba : Nat → Int32) (B : BT) (R : RT) (L : LT) (G : GT) (p : Nat → Nat), w = (modelW 0 (tk 0 5) (tk 0 6) th tr wh fa ta sz ix so pl nu wd td mk mo tx P D ea pa co S Cc V ba B R L G) ∧ a = [.ref 0] ∧ vOk V ∧ pkO (tcF V.1) p ∧ pkA V.2.2.2.2.1 p ∧ ∀ pi, pkA pi (trnN (tcF V.1) 9 p).2 → K (.inl (some (.int (bI (trnN (tcF V.1) 9 p).1)))) (modelW 0 (tk 0 5) (tk 0 6) th tr wh fa ta sz ix so pl nu wd td mk mo tx P D ea pa co S Cc (vPk V pi) ba B R L G)
abbrev csX14_turns : q_S := (1, 14, 0, 2, 0, 0, fdX14_turns, spX14_turns)
def EX14_turns : q_E := (tX14_turns, [(3, [0, 1])], 2, flX14, [], [], [], [], [], [], 0, 0, 0, (some .boolean), [], [], 0, 0)
theorem okX14_turns (l : Launch) : q_Eok l RX14 cX14_turns EX14_turns := ⟨tX14_turns_ok, flX14_ok, q_nil, q_nil, q_nil, q_nil, q_nil, q_nil, (fun h => absurd h (by decide))⟩
set_option maxRecDepth 100000 in
set_option maxHeartbeats 4000000 in
theorem ctX14_turns (l : Launch) : q_CT l yX14_turns (.code yX14_turns cX14_turns 2 (some .boolean)) 0 0 0 spX14_turns := by
  refine q_ct_of EX14_turns (by decide +kernel) (okX14_turns l) rfl rfl rfl rfl rfl q_nil (fun ci h => by cases h) rfl ?_
  intro a w K h
  obtain ⟨th, tr, wh, fa, ta, sz, ix, so, pl, nu, wd, td, mk, mo, tx, P, D, ea, pa, co, S, Cc, V, ba, B, R, L, G, p, rfl, rfl, hv, hp, ha, hK⟩ := h
  refine ⟨Nat.le_of_ble_eq_true rfl, fun C hC => ?_⟩
  have loop : ∀ t (q : Nat → Nat) (pi : Nat → Int32), t ≤ 9 → pkA pi q → (∀ i, i < t → q i ≤ tcF V.1 i) → (∀ pi, pkA pi (trnN (tcF V.1) t q).2 → K (.inl (some (.int (bI (trnN (tcF V.1) t q).1)))) (modelW 0 (tk 0 5) (tk 0 6) th tr wh fa ta sz ix so pl nu wd td mk mo tx P D ea pa co S Cc (vPk V pi) ba B R L G)) → C 3 [(0, .ref 0), (1, .int (nI t - 1))] [] (modelW 0 (tk 0 5) (tk 0 6) th tr wh fa ta sz ix so pl nu wd td mk mo tx P D ea pa co S Cc (vPk V pi) ba B R L G) 0 0 := by
    intro t
    induction t with
    | zero =>
      intro q pi _ ha _ hK
      exact hC _ _ _ _ _ _ (And.intro (fun _ => ⟨rfl, hK pi ha⟩) (fun z => absurd (show nI 0 - 1 < 0 by decide) z))
    | succ t ih =>
      intro q pi ht ha hq hK
      rw [nI_pred]
      have hvt : vp_in (nI t) 9 := vp_in_nI (by omega) (by omega)
      have hc : (nI t).toNatClampNeg = t := nI_clamp (by omega)
      obtain ⟨o1, o2⟩ := hv t (by omega)
      have hqt := hq t (by omega)
      have hat := ha t (by omega)
      have e1 : upd pi (nI t).toNatClampNeg (pi (nI t).toNatClampNeg + 1) = upd pi t (nI (q t + 1)) := by rw [hc, hat, nI_1]
      rw [trnN] at hK
      refine hC _ _ _ _ _ _ (And.intro (fun z => absurd z (nI_pos (by omega))) (fun _ => ⟨hvt, hvt, hvt, hvt, ?_⟩))
      refine And.intro (fun c => ⟨hvt, ?_⟩) (fun c => ⟨rfl, ?_⟩)
      · have c : V.1 (nI t).toNatClampNeg < upd pi (nI t).toNatClampNeg (pi (nI t).toNatClampNeg + 1) (nI t).toNatClampNeg := c
        rw [e1, hc, upd_eq, o1] at c
        rw [if_neg (fun z => absurd c (Int32.not_lt.mpr (nI_le z (by omega))))] at hK
        have h9 := ih (updN q t 0) (upd (upd pi t (nI (q t + 1))) t 0) (by omega) (fun i hi => by
          by_cases e : i = t
          · subst e; rw [upd_eq, updN, if_pos rfl]; rfl
          · rw [pk_un e, pk_un e, updN, if_neg e]; exact ha i hi) (fun i hi => by rw [updN, if_neg (by omega)]; exact hq i (by omega)) hK
        have e2 : upd (upd pi (nI t).toNatClampNeg (pi (nI t).toNatClampNeg + 1)) (nI t).toNatClampNeg 0 = upd (upd pi t (nI (q t + 1))) t 0 := by rw [e1, hc]
        rw [← e2, show nI t - 1 = nI t + (-1) from Int32.sub_eq_add_neg ..] at h9
        exact h9
      · have c : ¬ V.1 (nI t).toNatClampNeg < upd pi (nI t).toNatClampNeg (pi (nI t).toNatClampNeg + 1) (nI t).toNatClampNeg := c
        rw [e1, hc, upd_eq, o1] at c
        rw [if_pos (le_of_nI (by omega) (by omega) (Int32.not_lt.mp c))] at hK
        have h9 := hK (upd pi t (nI (q t + 1))) (fun i hi => by
          show upd pi t (nI (q t + 1)) i = nI (updN q t (q t + 1) i)
          by_cases e : i = t
          · subst e; rw [upd_eq, updN, if_pos rfl]
          · rw [pk_un e, updN, if_neg e]; exact ha i hi)
        rw [← e1] at h9
        exact h9
  have h9 := loop 9 p V.2.2.2.2.1 (Nat.le_refl _) ha hp hK
  exact hC _ _ _ _ _ _ h9
theorem upd_cp (pi be : Nat → Int32) (n i : Nat) (h : ∀ t, t < i → be t = pi t) : ∀ t, t < i + 1 → upd be i (pi i) t = pi t := fun t ht => by
  by_cases e : t = i
  · subst e; exact upd_eq _ _ _
  · rw [pk_un e]; exact h t (by omega)
def tX14_best : List q_I := [(0, .iconst (-1), 1, (-1), 0), (1, .istore_n 1, 1, 0, 0), (2, .iconst 0, 1, 0, 0), (3, .istore_n 2, 1, 0, 0), (4, .iload_n 2, 1, 0, 0), (5, .bipush 9, 2, 9, 0), (7, .if_icmp .ge 16, 3, 0, 23), (10, .aload_n 0, 1, 0, 0), (11, .getfield 108, 3, 0, 0), (14, .iload_n 2, 1, 0, 0), (15, .iconst 0, 1, 0, 0), (16, .iastore, 1, 0, 0), (17, .iinc 2 1, 3, 1, 0), (20, .goto (-16), 3, 0, 4), (23, .iconst 0, 1, 0, 0), (24, .istore_n 2, 1, 0, 0), (25, .iconst 0, 1, 0, 0), (26, .istore_n 3, 1, 0, 0), (27, .iload_n 3, 1, 0, 0), (28, .bipush 9, 2, 9, 0), (30, .if_icmp .ge 32, 3, 0, 62), (33, .iload_n 2, 1, 0, 0), (34, .aload_n 0, 1, 0, 0), (35, .getfield 108, 3, 0, 0), (38, .iload_n 3, 1, 0, 0), (39, .iaload, 1, 0, 0), (40, .aload_n 0, 1, 0, 0), (41, .getfield 96, 3, 0, 0), (44, .iload_n 3, 1, 0, 0), (45, .iaload, 1, 0, 0), (46, .if_icmp .ge 7, 3, 0, 53), (49, .iconst 1, 1, 1, 0), (50, .goto 4, 3, 0, 54), (53, .iconst 0, 1, 0, 0), (54, .iadd, 1, 0, 0), (55, .istore_n 2, 1, 0, 0), (56, .iinc 3 1, 3, 1, 0), (59, .goto (-32), 3, 0, 27), (62, .iload_n 2, 1, 0, 0), (63, .iload_n 1, 1, 0, 0), (64, .if_icmp .le 41, 3, 0, 105), (67, .aload_n 0, 1, 0, 0), (68, .invokevirtual 491, 3, 0, 0), (71, .ifCond .ne 6, 3, 0, 77), (74, .goto 31, 3, 0, 105), (77, .iload_n 2, 1, 0, 0), (78, .istore_n 1, 1, 0, 0), (79, .iconst 0, 1, 0, 0), (80, .istore_n 3, 1, 0, 0), (81, .iload_n 3, 1, 0, 0), (82, .bipush 9, 2, 9, 0), (84, .if_icmp .ge 21, 3, 0, 105), (87, .aload_n 0, 1, 0, 0), (88, .getfield 111, 3, 0, 0), (91, .iload_n 3, 1, 0, 0), (92, .aload_n 0, 1, 0, 0), (93, .getfield 108, 3, 0, 0), (96, .iload_n 3, 1, 0, 0), (97, .iaload, 1, 0, 0), (98, .iastore, 1, 0, 0), (99, .iinc 3 1, 3, 1, 0), (102, .goto (-21), 3, 0, 81), (105, .aload_n 0, 1, 0, 0), (106, .invokevirtual 494, 3, 0, 0), (109, .ifCond .ne (-86), 3, 0, 23), (112, .iload_n 1, 1, 0, 0), (113, .ireturn, 1, 0, 0)]
theorem tX14_best_ok : (tX14_best.all (q_okI cX14_best)) = true := by decide +kernel

abbrev fdX14_best : List (Nat ⊕ (Nat × Nat)) := [.inl 0, .inr (0, 7), .inr (0, 17), .inr (0, 18), .inr (0, 19), .inr (0, 20), .inr (0, 21), .inr (0, 22), .inr (0, 23), .inr (0, 26), .inr (0, 27), .inr (0, 28), .inr (0, 31), .inr (0, 32), .inr (0, 33), .inr (0, 34), .inr (0, 36), .inr (0, 37), .inr (0, 38), .inr (0, 39), .inr (0, 40), .inr (0, 41), .inr (0, 43), .inr (0, 44), .inr (0, 45), .inr (0, 46), .inr (0, 47), .inr (0, 48), .inr (0, 50), .inr (0, 51), .inr (0, 52), .inr (0, 4), .inr (31, 0), .inr (31, 1), .inr (31, 2), .inr (31, 3), .inr (31, 8), .inr (31, 9), .inr (31, 10), .inr (31, 11), .inr (31, 12), .inr (31, 13), .inr (31, 14), .inr (31, 15), .inr (31, 16), .inr (31, 17), .inr (31, 18), .inr (31, 19), .inr (31, 20), .inr (31, 21), .inr (31, 22), .inr (31, 23), .inr (31, 24), .inr (31, 25), .inr (31, 26), .inr (31, 27), .inr (31, 28)]
def spX14_best : q_P := fun a w K => ∃ (th : Int32) (tr : Int32) (wh : Int32) (fa : Int32) (ta : Nat) (sz : Int32) (ix : Int32) (so : Int32) (pl : Int32) (nu : Int32) (wd : Int64) (td : Int32) (mk : Int32) (mo : Int32) (tx : Nat → Int32) (P : PT) (D : DT) (ea : Nat → Int32) (pa : Nat → Int32) (co : Nat → Int32) (S : ST) (Cc : CT) (V : VT) (ba : Nat → Int32) (B : BT) (R : RT) (L : LT) (G : GT), w = (modelW 0 (tk 0 5) (tk 0 6) th tr wh fa ta sz ix so pl nu wd td mk mo tx P D ea pa co S Cc V ba B R L G) ∧ a = [.ref 0] ∧ vOk V ∧ V.2.2.2.2.2.2 ≤ 20 ∧ ∀ m be pi, bsI V (totN (tcF V.1) 9) m be → K (.inl (some (.int m))) (modelW 0 (tk 0 5) (tk 0 6) th tr wh fa ta sz ix so pl nu wd td mk mo tx P D ea pa co S Cc (vPB V pi be) ba B R L G)
abbrev csX14_best : q_S := (1, 14, 1, 4, 0, 0, fdX14_best, spX14_best)
theorem coX14_491 (l : Launch) : q_CO l RX14 491 csX14_isQuiet := ⟨yX14_isQuiet, cX14_isQuiet, (some .boolean), 0, ⟨by decide +kernel, by decide +kernel, by decide +kernel⟩, q_G_i 17 (by decide +kernel) rfl, Or.inl ⟨by decide, rfl, rfl, q_G_i 1892 (by decide +kernel) rfl, q_G_i 1894 (by decide +kernel) rfl, q_G_s (n := 53) 90 (by decide +kernel), Or.inl ⟨q_G_i 1895 (by decide +kernel) rfl, ctX14_isQuiet l⟩⟩⟩
theorem coX14_494 (l : Launch) : q_CO l RX14 494 csX14_turns := ⟨yX14_turns, cX14_turns, (some .boolean), 0, ⟨by decide +kernel, by decide +kernel, by decide +kernel⟩, q_G_i 17 (by decide +kernel) rfl, Or.inl ⟨by decide, rfl, rfl, q_G_i 1896 (by decide +kernel) rfl, q_G_i 1898 (by decide +kernel) rfl, q_G_s (n := 53) 91 (by decide +kernel), Or.inl ⟨q_G_i 1899 (by decide +kernel) rfl, ctX14_turns l⟩⟩⟩
def EX14_best : q_E := (tX14_best, [(4, [0, 1, 2]), (23, [0, 1]), (27, [0, 1, 2, 3]), (81, [0, 1, 3]), (105, [0, 1])], 4, flX14, [(491, csX14_isQuiet), (494, csX14_turns)], [], [], [], [], [], 1, 0, 0, (some .int), [], [], 0, 0)
theorem okX14_best (l : Launch) : q_Eok l RX14 cX14_best EX14_best := ⟨tX14_best_ok, flX14_ok, List.forall_mem_cons.mpr ⟨(coX14_491 l), List.forall_mem_cons.mpr ⟨(coX14_494 l), q_nil⟩⟩, q_nil, q_nil, q_nil, q_nil, q_nil, (fun h => absurd h (by decide))⟩
set_option maxRecDepth 100000 in
set_option maxHeartbeats 4000000 in
theorem ctX14_best (l : Launch) : q_CT l yX14_best (.code yX14_best cX14_best 4 (some .int)) 1 0 0 spX14_best := by
  refine q_ct_of EX14_best (by decide +kernel) (okX14_best l) rfl rfl rfl rfl rfl q_nil (fun ci h => by cases h) rfl ?_
  intro a w K h
  obtain ⟨th, tr, wh, fa, ta, sz, ix, so, pl, nu, wd, td, mk, mo, tx, P, D, ea, pa, co, S, Cc, V, ba, B, R, L, G, rfl, rfl, hv, hq, hK⟩ := h
  refine ⟨Nat.le_of_ble_eq_true rfl, fun C hC => ?_⟩
  have body : ∀ (p : Nat → Nat) (pi be : Nat → Int32) (m : Int32), pkO (tcF V.1) p → pkA pi p → bsI V (rkN (tcF V.1) p 9) m be → (∀ p' pi' be' m', pkO (tcF V.1) p' → pkA pi' p' → rkN (tcF V.1) p' 9 = rkN (tcF V.1) p 9 + 1 → bsI V (rkN (tcF V.1) p' 9) m' be' → C 23 [(0, .ref 0), (1, .int m')] [] (modelW 0 (tk 0 5) (tk 0 6) th tr wh fa ta sz ix so pl nu wd td mk mo tx P D ea pa co S Cc (vPB V pi' be') ba B R L G) 0 0) → C 23 [(0, .ref 0), (1, .int m)] [] (modelW 0 (tk 0 5) (tk 0 6) th tr wh fa ta sz ix so pl nu wd td mk mo tx P D ea pa co S Cc (vPB V pi be) ba B R L G) 0 0 := by
    intro p pi be m hp ha hb hnx
    have hcn := cntP_le (tcF V.1) p 9
    obtain ⟨t1, t2, t3⟩ := trnN_ok 9 p hp
    have turn : ∀ m be, bsI V (rkN (tcF V.1) p 9 + 1) m be → C 105 [(0, .ref 0), (1, .int m)] [] (modelW 0 (tk 0 5) (tk 0 6) th tr wh fa ta sz ix so pl nu wd td mk mo tx P D ea pa co S Cc (vPB V pi be) ba B R L G) 0 0 := by
      intro m be hb
      refine hC _ _ _ _ _ _ ⟨_, _, _, _, _, _, _, _, _, _, _, _, _, _, _, _, _, _, _, _, _, _, _, _, _, _, _, _, p, rfl, rfl, hv, hp, ha, fun pi' hpi' => And.intro (fun c => ?_) (fun c => ?_)⟩
      · have e := t2 (bI_n0.mp c)
        exact hnx _ pi' be m t1 hpi' e (by rw [e]; exact hb)
      · have e := t3 (bI_0.mp c)
        exact hK m be pi' (by rw [← e]; exact hb)
    have copy : ¬ nI (cntP (tcF V.1) p 9) ≤ m → tqB V p = true → ∀ k i be', i + k = 9 → (∀ t, t < i → be' t = pi t) → C 81 [(0, .ref 0), (1, .int (nI (cntP (tcF V.1) p 9))), (3, .int (nI i))] [] (modelW 0 (tk 0 5) (tk 0 6) th tr wh fa ta sz ix so pl nu wd td mk mo tx P D ea pa co S Cc (vPB V pi be') ba B R L G) 0 0 := by
      intro h1 h2 k
      induction k with
      | zero =>
        intro i be' hi hbe
        have hi : i = 9 := hi
        subst hi
        exact hC _ _ _ _ _ _ (And.intro (fun _ => turn _ be' (bsI_yes hp (fun t ht => (hbe t ht).trans (ha t ht)) hb h1 h2)) (fun z => absurd (show (9 : Int32) ≤ nI 9 by decide) z))
      | succ k ih =>
        intro i be' hi hbe
        have hvi : vp_in (nI i) 9 := vp_in_nI (by omega) (by omega)
        have hc : (nI i).toNatClampNeg = i := nI_clamp (by omega)
        have h9 := ih (i + 1) (upd be' i (pi i)) (by omega) (upd_cp pi be' 9 i hbe)
        have e : upd be' (nI i).toNatClampNeg (pi (nI i).toNatClampNeg) = upd be' i (pi i) := by rw [hc]
        rw [← nI_1, ← e] at h9
        exact hC _ _ _ _ _ _ (And.intro (fun z => absurd z (nI_ge (b := 9) (by omega) (by omega))) (fun _ => ⟨hvi, hvi, h9⟩))
    have count : ∀ k i, i + k = 9 → C 27 [(0, .ref 0), (1, .int m), (2, .int (nI (cntP (tcF V.1) p i))), (3, .int (nI i))] [] (modelW 0 (tk 0 5) (tk 0 6) th tr wh fa ta sz ix so pl nu wd td mk mo tx P D ea pa co S Cc (vPB V pi be) ba B R L G) 0 0 := by
      intro k
      induction k with
      | zero =>
        intro i hi
        have hi : i = 9 := hi
        subst hi
        refine hC _ _ _ _ _ _ (And.intro (fun _ => And.intro (fun c => turn m be (bsI_no hp hb (Or.inl c))) (fun c => ⟨_, _, _, _, _, _, _, _, _, _, _, _, _, _, _, _, _, _, _, _, _, _, _, _, _, _, _, _, p, rfl, rfl, hv, hq, hp, ha, And.intro (fun c2 => ?_) (fun c2 => ?_)⟩)) (fun z => absurd (show (9 : Int32) ≤ nI 9 by decide) z))
        · exact copy c (bI_n0.mp c2) 9 0 be (by omega) (fun t ht => absurd ht (Nat.not_lt_zero t))
        · exact turn m be (bsI_no hp hb (Or.inr (bI_0.mp c2)))
      | succ k ih =>
        intro i hi
        have hvi : vp_in (nI i) 9 := vp_in_nI (by omega) (by omega)
        have hc : (nI i).toNatClampNeg = i := nI_clamp (by omega)
        obtain ⟨o1, o2⟩ := hv i (by omega)
        have hpi := hp i (by omega)
        have hai := ha i (by omega)
        have h9 := ih (i + 1) (by omega)
        rw [cntP, ← nI_1 i] at h9
        refine hC _ _ _ _ _ _ (And.intro (fun z => absurd z (nI_ge (b := 9) (by omega) (by omega))) (fun _ => ⟨hvi, hvi, And.intro (fun c => ?_) (fun c => ?_)⟩))
        · have c : V.1 (nI i).toNatClampNeg ≤ pi (nI i).toNatClampNeg := c
          rw [hc, hai, o1] at c
          rw [if_neg (Nat.not_lt.mpr (le_of_nI (by omega) (by omega) c)), ← nI_add] at h9
          exact h9
        · have c : ¬ V.1 (nI i).toNatClampNeg ≤ pi (nI i).toNatClampNeg := c
          rw [hc, hai, o1] at c
          rw [if_pos (lt_of_nI (by omega) (by omega) c), ← nI_add] at h9
          exact h9
    exact hC _ _ _ _ _ _ (count 9 0 (by omega))
  have main : ∀ f (p : Nat → Nat) (pi be : Nat → Int32) (m : Int32), f + rkN (tcF V.1) p 9 + 1 = totN (tcF V.1) 9 → pkO (tcF V.1) p → pkA pi p → bsI V (rkN (tcF V.1) p 9) m be → C 23 [(0, .ref 0), (1, .int m)] [] (modelW 0 (tk 0 5) (tk 0 6) th tr wh fa ta sz ix so pl nu wd td mk mo tx P D ea pa co S Cc (vPB V pi be) ba B R L G) 0 0 := by
    intro f
    induction f with
    | zero =>
      intro p pi be m hf hp ha hb
      exact body p pi be m hp ha hb (fun p' pi' be' m' hp' ha' he hb' => absurd (rkN_lt 9 p' hp') (by omega))
    | succ f ih =>
      intro p pi be m hf hp ha hb
      exact body p pi be m hp ha hb (fun p' pi' be' m' hp' ha' he hb' => ih p' pi' be' m' (by omega) hp' ha' hb')
  have r0 : ∀ n, rkN (tcF V.1) (fun _ => 0) n = 0 := by
    intro n
    induction n with
    | zero => rfl
    | succ n ih => rw [rkN, ih]; omega
  have ini : ∀ k i pi, i + k = 9 → (∀ t, t < i → pi t = 0) → C 4 [(0, .ref 0), (1, .int (-1)), (2, .int (nI i))] [] (modelW 0 (tk 0 5) (tk 0 6) th tr wh fa ta sz ix so pl nu wd td mk mo tx P D ea pa co S Cc (vPB V pi V.2.2.2.2.2.1) ba B R L G) 0 0 := by
    intro k
    induction k with
    | zero =>
      intro i pi hi hpi
      have hi : i = 9 := hi
      subst hi
      have h0 : pkO (tcF V.1) (fun _ => 0) := fun t _ => Nat.zero_le _
      have hl := rkN_lt 9 (fun _ => 0) h0
      exact hC _ _ _ _ _ _ (And.intro (fun _ => main (totN (tcF V.1) 9 - 1) (fun _ => 0) pi V.2.2.2.2.2.1 (-1) (by rw [r0]; rw [r0] at hl; omega) h0 hpi (Or.inl ⟨rfl, fun q _ h => absurd h (by rw [r0]; exact Nat.not_lt_zero _)⟩)) (fun z => absurd (show (9 : Int32) ≤ nI 9 by decide) z))
    | succ k ih =>
      intro i pi hi hpi
      have hvi : vp_in (nI i) 9 := vp_in_nI (by omega) (by omega)
      have hc : (nI i).toNatClampNeg = i := nI_clamp (by omega)
      have h9 := ih (i + 1) (upd pi i 0) (by omega) (fun t ht => by
        by_cases e : t = i
        · subst e; exact upd_eq _ _ _
        · rw [pk_un e]; exact hpi t (by omega))
      have e : upd pi (nI i).toNatClampNeg 0 = upd pi i 0 := by rw [hc]
      rw [← nI_1, ← e] at h9
      exact hC _ _ _ _ _ _ (And.intro (fun z => absurd z (nI_ge (b := 9) (by omega) (by omega))) (fun _ => ⟨hvi, h9⟩))
  exact hC _ _ _ _ _ _ (ini 9 0 V.2.2.2.2.1 (by omega) (fun t ht => absurd ht (Nat.not_lt_zero t)))
def tX14_signed : List q_I := [(0, .aload_n 0, 1, 0, 0), (1, .iconst 0, 1, 0, 0), (2, .putfield 123, 3, 0, 0), (5, .aload_n 0, 1, 0, 0), (6, .getfield 379, 3, 0, 0), (9, .ifnonnull 11, 3, 0, 20), (12, .aload_n 0, 1, 0, 0), (13, .iconst 1, 1, 1, 0), (14, .invokevirtual 365, 3, 0, 0), (17, .goto 11, 3, 0, 28), (20, .aload_n 0, 1, 0, 0), (21, .aload_n 0, 1, 0, 0), (22, .invokevirtual 497, 3, 0, 0), (25, .invokevirtual 397, 3, 0, 0), (28, .ireturn, 1, 0, 0)]
theorem tX14_signed_ok : (tX14_signed.all (q_okI cX14_signed)) = true := by decide +kernel

abbrev fdX14_signed : List (Nat ⊕ (Nat × Nat)) := [.inl 0, .inr (0, 7), .inr (0, 17), .inr (0, 18), .inr (0, 19), .inr (0, 20), .inr (0, 21), .inr (0, 22), .inr (0, 23), .inr (0, 26), .inr (0, 27), .inr (0, 28), .inr (0, 31), .inr (0, 32), .inr (0, 33), .inr (0, 34), .inr (0, 36), .inr (0, 37), .inr (0, 38), .inr (0, 39), .inr (0, 40), .inr (0, 41), .inr (0, 43), .inr (0, 44), .inr (0, 45), .inr (0, 46), .inr (0, 47), .inr (0, 48), .inr (0, 50), .inr (0, 51), .inr (0, 52), .inr (0, 4), .inr (31, 0), .inr (31, 1), .inr (31, 2), .inr (31, 3), .inr (31, 8), .inr (31, 9), .inr (31, 10), .inr (31, 11), .inr (31, 12), .inr (31, 13), .inr (31, 14), .inr (31, 15), .inr (31, 16), .inr (31, 17), .inr (31, 18), .inr (31, 19), .inr (31, 20), .inr (31, 21), .inr (31, 22), .inr (31, 23), .inr (31, 24), .inr (31, 25), .inr (31, 26), .inr (31, 27), .inr (31, 28)]
def spX14_signed : q_P := fun a w K => ∃ (th : Int32) (tr : Int32) (wh : Int32) (fa : Int32) (ta : Nat) (sz : Int32) (ix : Int32) (so : Int32) (pl : Int32) (nu : Int32) (wd : Int64) (td : Int32) (mk : Int32) (mo : Int32) (tx : Nat → Int32) (P : PT) (D : DT) (ea : Nat → Int32) (pa : Nat → Int32) (co : Nat → Int32) (S : ST) (Cc : CT) (V : VT) (ba : Nat → Int32) (B : BT) (R : RT) (L : LT) (G : GT), w = (modelW 0 (tk 0 5) (tk 0 6) th tr wh fa ta sz ix so pl nu wd td mk mo tx P D ea pa co S Cc V ba B R L G) ∧ a = [.ref 0] ∧ vOk V ∧ V.2.2.2.2.2.2 ≤ 20 ∧ ∀ m be pi, bsI V (totN (tcF V.1) 9) m be → K (.inl (some (.int m))) (modelW 0 (tk 0 5) (tk 0 6) (0) (0) (-1) fa ta sz ix so pl nu wd td mk mo tx P D ea pa co S Cc (vPB V pi be) ba B R L G)
abbrev csX14_signed : q_S := (1, 14, 2, 1, 0, 0, fdX14_signed, spX14_signed)
theorem coX14_497 (l : Launch) : q_CO l RX14 497 csX14_best := ⟨yX14_best, cX14_best, (some .int), 0, ⟨by decide +kernel, by decide +kernel, by decide +kernel⟩, q_G_i 17 (by decide +kernel) rfl, Or.inl ⟨by decide, rfl, rfl, q_G_i 1888 (by decide +kernel) rfl, q_G_i 1890 (by decide +kernel) rfl, q_G_s (n := 53) 89 (by decide +kernel), Or.inl ⟨q_G_i 1891 (by decide +kernel) rfl, ctX14_best l⟩⟩⟩
def EX14_signed : q_E := (tX14_signed, [], 1, flX14, [(365, csX14_refused), (497, csX14_best), (397, csX14_done)], [], [], [], [], [], 2, 0, 0, (some .int), [], [], 0, 0)
theorem okX14_signed (l : Launch) : q_Eok l RX14 cX14_signed EX14_signed := ⟨tX14_signed_ok, flX14_ok, List.forall_mem_cons.mpr ⟨(coX14_365 l), List.forall_mem_cons.mpr ⟨(coX14_497 l), List.forall_mem_cons.mpr ⟨(coX14_397 l), q_nil⟩⟩⟩, q_nil, q_nil, q_nil, q_nil, q_nil, (fun h => absurd h (by decide))⟩
set_option maxRecDepth 100000 in
set_option maxHeartbeats 4000000 in
theorem ctX14_signed (l : Launch) : q_CT l yX14_signed (.code yX14_signed cX14_signed 1 (some .int)) 2 0 0 spX14_signed := by
  refine q_ct_of EX14_signed (by decide +kernel) (okX14_signed l) rfl rfl rfl rfl rfl q_nil (fun ci h => by cases h) rfl ?_
  intro a w K h
  obtain ⟨th, tr, wh, fa, ta, sz, ix, so, pl, nu, wd, td, mk, mo, tx, P, D, ea, pa, co, S, Cc, V, ba, B, R, L, G, rfl, rfl, hv, hq, hK⟩ := h
  refine ⟨Nat.le_of_ble_eq_true rfl, fun C hC => hC _ _ _ _ _ _ ?_⟩
  exact ⟨_, _, _, _, _, _, _, _, _, _, _, _, _, _, _, _, _, _, _, _, _, _, _, _, _, _, _, _, rfl, rfl, hv, hq, fun m be pi hb => ⟨_, _, _, _, _, _, _, _, _, _, _, _, _, _, _, _, _, _, _, _, _, _, _, _, rfl, rfl, hK m be pi hb⟩⟩
def tX14_signs : List q_I := [(0, .aload_n 0, 1, 0, 0), (1, .iconst 0, 1, 0, 0), (2, .putfield 123, 3, 0, 0), (5, .aload_n 0, 1, 0, 0), (6, .getfield 379, 3, 0, 0), (9, .ifnull 13, 3, 0, 22), (12, .iload_n 1, 1, 0, 0), (13, .iconst 0, 1, 0, 0), (14, .bipush 8, 2, 8, 0), (16, .invokestatic 207, 3, 0, 0), (19, .ifCond .ne 9, 3, 0, 28), (22, .aload_n 0, 1, 0, 0), (23, .iconst 1, 1, 1, 0), (24, .invokevirtual 365, 3, 0, 0), (27, .ireturn, 1, 0, 0), (28, .aload_n 0, 1, 0, 0), (29, .invokevirtual 497, 3, 0, 0), (32, .istore_n 2, 1, 0, 0), (33, .aload_n 0, 1, 0, 0), (34, .aload_n 0, 1, 0, 0), (35, .getfield 111, 3, 0, 0), (38, .iload_n 1, 1, 0, 0), (39, .iaload, 1, 0, 0), (40, .aload_n 0, 1, 0, 0), (41, .getfield 96, 3, 0, 0), (44, .iload_n 1, 1, 0, 0), (45, .iaload, 1, 0, 0), (46, .if_icmp .ge 12, 3, 0, 58), (49, .aload_n 0, 1, 0, 0), (50, .getfield 111, 3, 0, 0), (53, .iload_n 1, 1, 0, 0), (54, .iaload, 1, 0, 0), (55, .goto 5, 3, 0, 60), (58, .bipush (-2), 2, (-2), 0), (60, .invokevirtual 397, 3, 0, 0), (63, .ireturn, 1, 0, 0)]
theorem tX14_signs_ok : (tX14_signs.all (q_okI cX14_signs)) = true := by decide +kernel

abbrev fdX14_signs : List (Nat ⊕ (Nat × Nat)) := [.inl 0, .inr (0, 7), .inr (0, 17), .inr (0, 18), .inr (0, 19), .inr (0, 20), .inr (0, 21), .inr (0, 22), .inr (0, 23), .inr (0, 26), .inr (0, 27), .inr (0, 28), .inr (0, 31), .inr (0, 32), .inr (0, 33), .inr (0, 34), .inr (0, 36), .inr (0, 37), .inr (0, 38), .inr (0, 39), .inr (0, 40), .inr (0, 41), .inr (0, 43), .inr (0, 44), .inr (0, 45), .inr (0, 46), .inr (0, 47), .inr (0, 48), .inr (0, 50), .inr (0, 51), .inr (0, 52), .inr (0, 4), .inr (31, 0), .inr (31, 1), .inr (31, 2), .inr (31, 3), .inr (31, 8), .inr (31, 9), .inr (31, 10), .inr (31, 11), .inr (31, 12), .inr (31, 13), .inr (31, 14), .inr (31, 15), .inr (31, 16), .inr (31, 17), .inr (31, 18), .inr (31, 19), .inr (31, 20), .inr (31, 21), .inr (31, 22), .inr (31, 23), .inr (31, 24), .inr (31, 25), .inr (31, 26), .inr (31, 27), .inr (31, 28)]
def spX14_signs : q_P := fun a w K => ∃ (th : Int32) (tr : Int32) (wh : Int32) (fa : Int32) (ta : Nat) (sz : Int32) (ix : Int32) (so : Int32) (pl : Int32) (nu : Int32) (wd : Int64) (td : Int32) (mk : Int32) (mo : Int32) (tx : Nat → Int32) (P : PT) (D : DT) (ea : Nat → Int32) (pa : Nat → Int32) (co : Nat → Int32) (S : ST) (Cc : CT) (V : VT) (ba : Nat → Int32) (B : BT) (R : RT) (L : LT) (G : GT) (t : Int32), w = (modelW 0 (tk 0 5) (tk 0 6) th tr wh fa ta sz ix so pl nu wd td mk mo tx P D ea pa co S Cc V ba B R L G) ∧ a = [.ref 0, .int t] ∧ vOk V ∧ V.2.2.2.2.2.2 ≤ 20 ∧ (if thB t = true then ∀ m be pi, bsI V (totN (tcF V.1) 9) m be → K (.inl (some (.int (if be t.toNatClampNeg < V.1 t.toNatClampNeg then be t.toNatClampNeg else -2)))) (modelW 0 (tk 0 5) (tk 0 6) (0) (0) (-1) fa ta sz ix so pl nu wd td mk mo tx P D ea pa co S Cc (vPB V pi be) ba B R L G) else K (.inl (some (.int (-1)))) (modelW 0 (tk 0 5) (tk 0 6) (0) (1) (-1) fa ta sz ix so pl nu wd td mk mo tx P D ea pa co S Cc V ba B R L G))
abbrev csX14_signs : q_S := (2, 14, 2, 3, 0, 0, fdX14_signs, spX14_signs)
def EX14_signs : q_E := (tX14_signs, [], 3, flX14, [(207, csX14_in), (365, csX14_refused), (497, csX14_best), (397, csX14_done)], [], [], [], [], [], 2, 0, 0, (some .int), [], [], 0, 0)
theorem okX14_signs (l : Launch) : q_Eok l RX14 cX14_signs EX14_signs := ⟨tX14_signs_ok, flX14_ok, List.forall_mem_cons.mpr ⟨(coX14_207 l), List.forall_mem_cons.mpr ⟨(coX14_365 l), List.forall_mem_cons.mpr ⟨(coX14_497 l), List.forall_mem_cons.mpr ⟨(coX14_397 l), q_nil⟩⟩⟩⟩, q_nil, q_nil, q_nil, q_nil, q_nil, (fun h => absurd h (by decide))⟩
set_option maxRecDepth 100000 in
set_option maxHeartbeats 4000000 in
theorem ctX14_signs (l : Launch) : q_CT l yX14_signs (.code yX14_signs cX14_signs 3 (some .int)) 2 0 0 spX14_signs := by
  refine q_ct_of EX14_signs (by decide +kernel) (okX14_signs l) rfl rfl rfl rfl rfl q_nil (fun ci h => by cases h) rfl ?_
  intro a w K h
  obtain ⟨th, tr, wh, fa, ta, sz, ix, so, pl, nu, wd, td, mk, mo, tx, P, D, ea, pa, co, S, Cc, V, ba, B, R, L, G, t, rfl, rfl, hv, hq, hK⟩ := h
  have ht8 : inB t 0 8 = thB t := by
    unfold inB thB
    apply decide_eq_decide.mpr
    rw [Int32.le_iff_toInt_le, Int32.le_iff_toInt_le, Int32.lt_iff_toInt_lt, show (8 : Int32).toInt = 8 by decide, show (9 : Int32).toInt = 9 by decide]
    omega
  refine ⟨Nat.le_of_ble_eq_true rfl, fun C hC => hC _ _ _ _ _ _ ?_⟩
  refine ⟨t, 0, 8, rfl, rfl, ?_⟩
  rw [ht8]
  refine And.intro (fun c => ?_) (fun c => ?_)
  rotate_left
  · rw [if_neg (by rw [bI_0.mp c]; decide)] at hK
    exact ⟨_, _, _, _, _, _, _, _, _, _, _, _, _, _, _, _, _, _, _, _, _, _, _, _, rfl, rfl, hK⟩
  have c2 := bI_n0.mp c
  rw [if_pos c2] at hK
  obtain ⟨t, rfl, ht⟩ := inI (n := 9) (by omega) (of_decide_eq_true c2)
  have hvt : vp_in (nI t) 9 := vp_in_nI ht (by omega)
  refine ⟨_, _, _, _, _, _, _, _, _, _, _, _, _, _, _, _, _, _, _, _, _, _, _, _, _, _, _, _, rfl, rfl, hv, hq, fun m be pi hb => ?_⟩
  have hK := hK m be pi hb
  refine ⟨hvt, hvt, And.intro (fun c3 => ?_) (fun c3 => ⟨hvt, ?_⟩)⟩
  · have c3 : V.1 (nI t).toNatClampNeg ≤ be (nI t).toNatClampNeg := c3
    rw [if_neg (Int32.not_lt.mpr c3)] at hK
    exact ⟨_, _, _, _, _, _, _, _, _, _, _, _, _, _, _, _, _, _, _, _, _, _, _, _, rfl, rfl, hK⟩
  · have c3 : ¬ V.1 (nI t).toNatClampNeg ≤ be (nI t).toNatClampNeg := c3
    rw [if_pos (Int32.not_le.mp c3)] at hK
    exact ⟨_, _, _, _, _, _, _, _, _, _, _, _, _, _, _, _, _, _, _, _, _, _, _, _, rfl, rfl, hK⟩
