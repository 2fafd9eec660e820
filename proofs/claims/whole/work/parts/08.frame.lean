/-! ===== a callee's cells, cut out of the caller's, and what comes back ===== -/
theorem q_ns_eq : q_ns = List.range 250 := by decide +kernel
theorem q_ns_at {j n : Nat} (h : q_ns[j]? = some n) : n = j := by
  rw [q_ns_eq, List.getElem?_range] at h
  · exact (Option.some.inj h).symm
  · rcases Nat.lt_or_ge j 250 with z | z
    · exact z
    · rw [List.getElem?_eq_none (by simpa using z)] at h
      cases h
theorem q_ix_ok {p n : Nat} : ∀ {σ ns : List Nat}, q_ix p σ ns = some n → ∃ j : Nat, σ[j]? = some p ∧ ns[j]? = some n
  | [], ns, h => by simp [q_ix] at h
  | a :: σ, [], h => by simp [q_ix] at h
  | a :: σ, b :: ns, h => by
    rw [q_ix] at h
    split at h
    · next hb =>
      cases h
      exact ⟨0, by rw [Nat.eq_of_beq_eq_true hb]; rfl, rfl⟩
    · obtain ⟨j, h1, h2⟩ := q_ix_ok h
      exact ⟨j + 1, h1, h2⟩
theorem q_ix_at {p n : Nat} {σ : List Nat} (h : q_ix p σ q_ns = some n) : σ[n]? = some p := by
  obtain ⟨j, h1, h2⟩ := q_ix_ok h
  rw [q_ns_at h2]; exact h1
theorem q_el_ok {a : Nat} : ∀ {l : List Nat}, q_el a l = false → a ∉ l
  | [], _ => List.not_mem_nil
  | b :: l, h => by
    rw [q_el] at h
    split at h
    · cases h
    · next hb =>
      intro hm
      rcases List.mem_cons.mp hm with e | hm
      · rw [e] at hb
        have : Nat.beq b b = true := Nat.beq_eq.mpr rfl
        rw [this] at hb; cases hb
      · exact q_el_ok h hm
theorem q_nd_ok : ∀ {l : List Nat}, q_nd l = true → ∀ (i j p : Nat), l[i]? = some p → l[j]? = some p → i = j
  | [], _, i, j, p, h, _ => by simp at h
  | a :: l, hn, i, j, p, h1, h2 => by
    rw [q_nd] at hn
    split at hn
    · cases hn
    · next he =>
      have ha := q_el_ok he
      cases i with
      | zero =>
        cases j with
        | zero => rfl
        | succ j =>
          cases h1
          exact absurd (List.mem_of_getElem? (i := j) h2) ha
      | succ i =>
        cases j with
        | zero =>
          cases h2
          exact absurd (List.mem_of_getElem? (i := i) h1) ha
        | succ j => rw [q_nd_ok hn i j p h1 h2]
theorem q_pop_ok : ∀ (n : Nat) (st acc : List Value) (k : List Value → List Value → Prop), q_pop n st acc k → ∃ as rest, st = as.reverse ++ rest ∧ as.length = n ∧ k (as ++ acc) rest
  | 0, st, acc, k, h => ⟨[], st, rfl, rfl, h⟩
  | n + 1, [], acc, k, h => by simp [q_pop] at h
  | n + 1, v :: st, acc, k, h => by
    rw [q_pop] at h
    obtain ⟨as, rest, h1, h2, h3⟩ := q_pop_ok n st (v :: acc) k h
    exact ⟨as ++ [v], rest, by rw [h1]; simp, by simp [h2], by rw [List.append_assoc]; exact h3⟩
theorem q_sn_ok {α : Type} {p : α} : ∀ {l : List α} {k : List α → Prop}, q_sn p l k → k (l ++ [p])
  | [], k, h => h
  | a :: l, k, h => q_sn_ok (l := l) h
theorem q_ft_ok {args : List Value} {aw : List q_C} : ∀ {fd : List (Nat ⊕ (Nat × Nat))} {σ : List Nat} {k : List Nat → Prop}, q_ft args aw fd σ k → ∃ σ', k σ'
  | [], σ, k, h => ⟨σ, h⟩
  | .inl a :: fd, σ, k, h => by
    simp only [q_ft] at h
    split at h
    · exact q_ft_ok (q_sn_ok h)
    · exact h.elim
  | .inr (i, f) :: fd, σ, k, h => by
    simp only [q_ft] at h
    split at h
    · split at h
      · split at h
        · exact q_ft_ok (q_sn_ok h)
        · exact h.elim
      · exact h.elim
    · exact h.elim
/-- the callee's addresses, seen from the caller -/
def q_ad (ad : Nat → Nat) (σ : List Nat) : Nat → Nat := fun n => match σ[n]? with
  | some p => ad p
  | none => 0
def q_xd (ad xd : Nat → Nat) (σ : List Nat) (aw : List q_C) : Nat → Nat := fun e => if e < 100 then xd e else match q_og σ aw e with
  | some v => match q_cv ad xd v with
    | .ref a => a
    | _ => 0
  | none => 0
theorem q_ad_at {ad : Nat → Nat} {σ : List Nat} {n p : Nat} (h : σ[n]? = some p) : q_ad ad σ n = ad p := by simp [q_ad, h]
theorem q_lval_ok {ad xd : Nat → Nat} {σ : List Nat} {aw : List q_C} {i j p ci : Nat} {fs : List Value} {v : Value} {k : Value → Prop} (h1 : σ[i]? = some p) (h2 : aw[p]? = some (.inr (ci, fs))) (h3 : fs[j]? = some v) (hj : j < 100) (h : q_lval σ i j v k) : ∃ v', k v' ∧ q_cv (q_ad ad σ) (q_xd ad xd σ aw) v' = q_cv ad xd v := by
  have tok : ∀ a, q_cv ad xd v = .ref a → q_xd ad xd σ aw (100 + (100 * i + j)) = a := by
    intro a ha
    have e1 : (100 + (100 * i + j) - 100) / 100 = i := by omega
    have e2 : (100 + (100 * i + j) - 100) % 100 = j := by omega
    have e3 : q_og σ aw (100 + (100 * i + j)) = some v := by
      simp only [q_og, q_at_eq, e1, e2, h1, h2, h3]
    have e4 : ¬ (100 + (100 * i + j) < 100) := by omega
    simp only [q_xd, e3, if_neg e4, ha]
  cases v with
  | ref p0 =>
    simp only [q_lval] at h
    split at h
    · next n hn => exact ⟨_, h, by simp only [q_cv, q_ad_at (q_ix_at hn)]⟩
    · exact ⟨_, h, by simp only [q_cv, tok (ad p0) rfl]⟩
  | retAddr e =>
    simp only [q_lval] at h
    split at h
    · exact ⟨_, h, by simp only [q_cv, tok (xd e) rfl]⟩
    · next hb =>
      have he : e < 100 := by
        rcases Nat.lt_or_ge e 100 with z | z
        · exact z
        · rw [Nat.ble_eq_true_of_le z] at hb; cases hb
      exact ⟨_, h, by simp only [q_cv, q_xd, if_pos he]⟩
  | _ => exact ⟨_, h, rfl⟩
theorem q_lf_ok {ad xd : Nat → Nat} {σ : List Nat} {aw : List q_C} {i p ci : Nat} {fs : List Value} (h1 : σ[i]? = some p) (h2 : aw[p]? = some (.inr (ci, fs))) : ∀ (l : List Value) (j : Nat) (k : List Value → Prop), (∀ t : Nat, l[t]? = fs[j + t]?) → q_lf σ i l j k → ∃ l', k l' ∧ l'.map (q_cv (q_ad ad σ) (q_xd ad xd σ aw)) = l.map (q_cv ad xd)
  | [], j, k, _, h => ⟨[], h, rfl⟩
  | v :: l, j, k, hl, h => by
    rw [q_lf] at h
    split at h
    · exact h.elim
    · next hb =>
      have hj : j < 100 := by
        rcases Nat.lt_or_ge j 100 with z | z
        · exact z
        · rw [Nat.ble_eq_true_of_le z] at hb; cases hb
      obtain ⟨v', h3, h4⟩ := q_lval_ok (ad := ad) (xd := xd) h1 h2 (by have := hl 0; simpa using this.symm) hj h
      obtain ⟨l', h5, h6⟩ := q_lf_ok h1 h2 l (j + 1) _ (fun t => by have := hl (t + 1); rw [List.getElem?_cons_succ] at this; rw [this]; congr 1; omega) h3
      exact ⟨_, h5, by rw [List.map_cons, List.map_cons, h4, h6]⟩
theorem q_lcl_ok {cy : Nat → ClassId} {ad xd : Nat → Nat} {σ : List Nat} {aw : List q_C} {i p : Nat} {c : q_C} {k : q_C → Prop} (h1 : σ[i]? = some p) (h2 : aw[p]? = some c) (h : q_lcl σ i c k) : ∃ c', k c' ∧ q_cE cy (q_ad ad σ) (q_xd ad xd σ aw) c' = q_cE cy ad xd c := by
  match c, h2, h with
  | .inl (kd, n, .inl f), h2, h => exact ⟨_, h, rfl⟩
  | .inl (kd, n, .inr f), h2, h => exact ⟨_, h, rfl⟩
  | .inr (ci, fs), h2, h =>
    obtain ⟨l', h5, h6⟩ := q_lf_ok (ad := ad) (xd := xd) h1 h2 fs 0 _ (fun t => by rw [Nat.zero_add]) h
    exact ⟨_, h5, by simp only [q_cE, h6]⟩
theorem q_lw_ok {cy : Nat → ClassId} {ad xd : Nat → Nat} {σ0 : List Nat} {aw : List q_C} : ∀ (τ : List Nat) (i : Nat) (k : List q_C → Prop), (∀ t : Nat, τ[t]? = σ0[i + t]?) → q_lw aw σ0 τ i k →
    ∃ w, k w ∧ w.length = τ.length ∧ ∀ (t p : Nat), τ[t]? = some p → ∃ c c', aw[p]? = some c ∧ w[t]? = some c' ∧ q_cE cy (q_ad ad σ0) (q_xd ad xd σ0 aw) c' = q_cE cy ad xd c
  | [], i, k, _, h => ⟨[], h, rfl, fun t p hp => by simp at hp⟩
  | q :: τ, i, k, hl, h => by
    rw [q_lw] at h
    split at h
    · next c hc =>
      rw [q_at_eq] at hc
      have h0 : σ0[i]? = some q := by have := hl 0; simpa using this.symm
      obtain ⟨c', h3, h4⟩ := q_lcl_ok (cy := cy) (ad := ad) (xd := xd) h0 hc h
      obtain ⟨w, h5, h6, h7⟩ := q_lw_ok (cy := cy) (ad := ad) (xd := xd) τ (i + 1) _ (fun t => by have := hl (t + 1); rw [List.getElem?_cons_succ] at this; rw [this]; congr 1; omega) h3
      refine ⟨_, h5, by rw [List.length_cons, List.length_cons, h6], fun t p hp => ?_⟩
      cases t with
      | zero => cases hp; exact ⟨c, c', hc, rfl, h4⟩
      | succ t => exact h7 t p hp
    · exact h.elim
theorem q_la_ok {ad xd : Nat → Nat} {σ : List Nat} {aw : List q_C} : ∀ (l : List Value) (k : List Value → Prop), q_la σ l k → ∃ l', k l' ∧ l'.map (q_cv (q_ad ad σ) (q_xd ad xd σ aw)) = l.map (q_cv ad xd)
  | [], k, h => ⟨[], h, rfl⟩
  | v :: l, k, h => by
    cases v with
    | ref p0 =>
      simp only [q_la] at h
      split at h
      · next n hn =>
        obtain ⟨l', h5, h6⟩ := q_la_ok (ad := ad) (xd := xd) (aw := aw) l _ h
        exact ⟨_, h5, by rw [List.map_cons, List.map_cons, h6]; simp only [q_cv, q_ad_at (q_ix_at hn)]⟩
      · exact h.elim
    | retAddr e =>
      obtain ⟨he, h⟩ := h
      obtain ⟨l', h5, h6⟩ := q_la_ok (ad := ad) (xd := xd) (aw := aw) l _ h
      exact ⟨_, h5, by rw [List.map_cons, List.map_cons, h6]; simp only [q_cv, q_xd, if_pos he]⟩
    | int x => obtain ⟨l', h5, h6⟩ := q_la_ok (ad := ad) (xd := xd) (aw := aw) l _ h; exact ⟨_, h5, by rw [List.map_cons, List.map_cons, h6]; rfl⟩
    | long x => obtain ⟨l', h5, h6⟩ := q_la_ok (ad := ad) (xd := xd) (aw := aw) l _ h; exact ⟨_, h5, by rw [List.map_cons, List.map_cons, h6]; rfl⟩
    | null => obtain ⟨l', h5, h6⟩ := q_la_ok (ad := ad) (xd := xd) (aw := aw) l _ h; exact ⟨_, h5, by rw [List.map_cons, List.map_cons, h6]; rfl⟩
    | float x => exact (h : False).elim
    | double x => exact (h : False).elim
/-- back: ad1 the callee's addresses at its end, ad2 the caller's then -/
theorem q_gval_ok {ad xd ad1 ad2 : Nat → Nat} {τ σ : List Nat} {aw : List q_C} {v : Value} {k : Value → Prop} (hτ : ∀ (n p : Nat), τ[n]? = some p → ad2 p = ad1 n) (ho : ∀ e v0, q_og σ aw e = some v0 → q_cv ad2 xd v0 = q_cv ad xd v0) (h : q_gval τ σ aw v k) : ∃ v', k v' ∧ q_cv ad2 xd v' = q_cv ad1 (q_xd ad xd σ aw) v := by
  cases v with
  | ref n =>
    simp only [q_gval] at h
    split at h
    · next p hp =>
      rw [q_at_eq] at hp
      exact ⟨_, h, by simp only [q_cv, hτ n p hp]⟩
    · exact h.elim
  | retAddr e =>
    simp only [q_gval] at h
    split at h
    · next hb =>
      have he : e < 100 := by
        rcases Nat.lt_or_ge e 100 with z | z
        · exact z
        · rw [Nat.ble_eq_true_of_le z] at hb; cases hb
      exact ⟨_, h, by simp only [q_cv, q_xd, if_pos he]⟩
    · next hb =>
      have he : ¬ e < 100 := fun z => by have := Nat.le_of_ble_eq_true hb; omega
      split at h
      · next p hp => exact ⟨_, h, by rw [ho e _ hp]; simp only [q_cv, q_xd, if_neg he, hp]⟩
      · next x hp => exact ⟨_, h, by rw [ho e _ hp]; simp only [q_cv, q_xd, if_neg he, hp]⟩
      · exact h.elim
  | _ => exact ⟨_, h, rfl⟩
theorem q_gf_ok {ad xd ad1 ad2 : Nat → Nat} {τ σ : List Nat} {aw : List q_C} (hτ : ∀ (n p : Nat), τ[n]? = some p → ad2 p = ad1 n) (ho : ∀ e v0, q_og σ aw e = some v0 → q_cv ad2 xd v0 = q_cv ad xd v0) : ∀ (l : List Value) (k : List Value → Prop), q_gf τ σ aw l k → ∃ l', k l' ∧ l'.map (q_cv ad2 xd) = l.map (q_cv ad1 (q_xd ad xd σ aw))
  | [], k, h => ⟨[], h, rfl⟩
  | v :: l, k, h => by
    rw [q_gf] at h
    obtain ⟨v', h3, h4⟩ := q_gval_ok hτ ho h
    obtain ⟨l', h5, h6⟩ := q_gf_ok hτ ho l _ h3
    exact ⟨_, h5, by rw [List.map_cons, List.map_cons, h4, h6]⟩
theorem q_gc_ok {cy : Nat → ClassId} {ad xd ad1 ad2 : Nat → Nat} {τ σ : List Nat} {aw : List q_C} {c : q_C} {k : q_C → Prop} (hτ : ∀ (n p : Nat), τ[n]? = some p → ad2 p = ad1 n) (ho : ∀ e v0, q_og σ aw e = some v0 → q_cv ad2 xd v0 = q_cv ad xd v0) (h : q_gc τ σ aw c k) : ∃ c', k c' ∧ q_cE cy ad2 xd c' = q_cE cy ad1 (q_xd ad xd σ aw) c := by
  match c, h with
  | .inl (kd, n, .inl f), h => exact ⟨_, h, rfl⟩
  | .inl (kd, n, .inr f), h => exact ⟨_, h, rfl⟩
  | .inr (ci, fs), h =>
    obtain ⟨l', h5, h6⟩ := q_gf_ok hτ ho fs _ h
    exact ⟨_, h5, by simp only [q_cE, h6]⟩
theorem q_ap_ok {c : q_C} : ∀ (l : List q_C) (n : Nat) (k : List q_C → Prop), q_ap c l n k → ∃ l', k l' ∧ n ≤ l.length ∧ l'[n]? = some c ∧ (∀ i : Nat, i ≠ n → l'[i]? = l[i]?) ∧ (n < l.length → l'.length = l.length) ∧ (n = l.length → l'.length = l.length + 1)
  | [], 0, k, h => ⟨_, h, Nat.le_refl _, rfl, fun i hi => by cases i with | zero => exact absurd rfl hi | succ i => rfl, fun z => absurd z (Nat.lt_irrefl 0), fun _ => rfl⟩
  | [], n + 1, k, h => (h : False).elim
  | d :: l, 0, k, h => ⟨_, h, Nat.zero_le _, rfl, fun i hi => by cases i with | zero => exact absurd rfl hi | succ i => rfl, fun _ => rfl, fun z => by simp at z⟩
  | d :: l, n + 1, k, h => by
    obtain ⟨l', h1, h2, h3, h4, h5, h6⟩ := q_ap_ok l n _ h
    refine ⟨_, h1, Nat.succ_le_succ h2, h3, fun i hi => ?_, fun z => ?_, fun z => ?_⟩
    · cases i with
      | zero => rfl
      | succ i => exact h4 i (fun y => hi (by rw [y]))
    · rw [List.length_cons, List.length_cons, h5 (Nat.lt_of_succ_lt_succ z)]
    · rw [List.length_cons, List.length_cons, h6 (Nat.succ.inj z)]
theorem q_gw_ok {cy : Nat → ClassId} {ad xd ad1 ad2 : Nat → Nat} {τ σ : List Nat} {aw0 : List q_C} (hτ : ∀ (n p : Nat), τ[n]? = some p → ad2 p = ad1 n) (ho : ∀ e v0, q_og σ aw0 e = some v0 → q_cv ad2 xd v0 = q_cv ad xd v0) :
    ∀ (w : List q_C) (ps : List Nat) (aw : List q_C) (k : List q_C → Prop), (∀ (i j p : Nat), ps[i]? = some p → ps[j]? = some p → i = j) → q_gw τ σ aw0 w ps aw k →
    ∃ aw', k aw' ∧ aw.length ≤ aw'.length ∧ (∀ (j : Nat) (c : q_C), w[j]? = some c → ∃ (p : Nat) (c' : q_C), ps[j]? = some p ∧ aw'[p]? = some c' ∧ q_cE cy ad2 xd c' = q_cE cy ad1 (q_xd ad xd σ aw0) c) ∧ (∀ i : Nat, (∀ j : Nat, j < w.length → ps[j]? ≠ some i) → aw'[i]? = aw[i]?)
  | [], ps, aw, k, _, h => ⟨aw, h, Nat.le_refl _, fun j c hj => by simp at hj, fun i _ => rfl⟩
  | c :: w, [], aw, k, _, h => (h : False).elim
  | c :: w, p :: ps, aw, k, hn, h => by
    simp only [q_gw] at h
    obtain ⟨c', h1, h2⟩ := q_gc_ok (cy := cy) hτ ho h
    obtain ⟨l', h3, h4, h5, h6, h7, h8⟩ := q_ap_ok aw p _ h1
    have hn' : ∀ (i j p : Nat), ps[i]? = some p → ps[j]? = some p → i = j := fun i j p a b => Nat.succ.inj (hn (i + 1) (j + 1) p a b)
    obtain ⟨aw', g1, g2, g3, g4⟩ := q_gw_ok (cy := cy) hτ ho w ps l' k hn' h3
    have hlen : aw.length ≤ l'.length := by
      rcases Nat.lt_or_ge p aw.length with z | z
      · rw [h7 z]; exact Nat.le_refl _
      · rw [h8 (by omega)]; omega
    refine ⟨aw', g1, Nat.le_trans hlen g2, fun j d hj => ?_, fun i hi => ?_⟩
    · cases j with
      | zero =>
        cases hj
        refine ⟨p, c', rfl, ?_, h2⟩
        rw [g4 p (fun j hj z => by have := hn 0 (j + 1) p rfl z; omega)]
        exact h5
      | succ j => exact g3 j d hj
    · rw [g4 i (fun j hj => hi (j + 1) (Nat.succ_lt_succ hj))]
      exact h6 i (fun z => hi 0 (Nat.succ_pos _) (by rw [z]; rfl))
theorem q_ext_ok : ∀ (w : List q_C) (σ ns : List Nat) (k : List Nat → Prop), q_ext w σ ns k → ∃ ex, k (σ ++ ex) ∧ w.length = σ.length + ex.length ∧ ∀ j : Nat, j < ex.length → ex[j]? = ns[j]?
  | [], [], ns, k, h => ⟨[], h, rfl, fun j hj => by simp at hj⟩
  | [], p :: σ, ns, k, h => (h : False).elim
  | c :: w, p :: σ, ns, k, h => by
    simp only [q_ext] at h
    obtain ⟨ex, h1, h2, h3⟩ := q_ext_ok w σ ns _ h
    exact ⟨ex, h1, by rw [List.length_cons, List.length_cons, h2]; omega, h3⟩
  | c :: w, [], [], k, h => (h : False).elim
  | c :: w, [], n :: ns, k, h => by
    simp only [q_ext] at h
    obtain ⟨ex, h1, h2, h3⟩ := q_ext_ok w [] ns _ h
    refine ⟨n :: ex, h1, by rw [List.length_cons, List.length_cons, h2, List.length_nil]; omega, fun j hj => ?_⟩
    cases j with
    | zero => rfl
    | succ j => exact h3 j (by rw [List.length_cons] at hj; omega)
theorem q_dl_ok : ∀ (aw : List q_C) (ns : List Nat), q_dl ns aw = ns.drop aw.length
  | [], ns => rfl
  | c :: aw, ns => by
    have hd : ∀ r : List Nat, (match r with | [] => [] | _ :: r => r) = r.drop 1 := fun r => by cases r <;> rfl
    rw [q_dl, q_dl_ok aw ns]
    refine Eq.trans (hd _) ?_
    rw [List.drop_drop, List.length_cons]
theorem q_ln_eq : ∀ (aw : List q_C), q_ln aw = aw.length
  | [] => rfl
  | c :: aw => by rw [q_ln, q_ln_eq aw, List.length_cons]
theorem q_cats_eq (ad xd : Nat → Nat) : ∀ (l : List Value), ((l.map (q_cv ad xd)).map fun v => v.category).sum = q_cats l
  | [] => rfl
  | v :: l => by rw [List.map_cons, List.map_cons, List.sum_cons, q_cv_cat, q_cats_eq ad xd l, q_cats]
theorem q_v_ok {n : Nat} {ad ad2 xd : Nat → Nat} (h1 : ∀ p, p < n → ad2 p = ad p) {v : Value} (h : q_v n v = true) : q_cv ad2 xd v = q_cv ad xd v := by
  cases v with
  | ref p => simp only [q_cv]; rw [h1 p (Nat.le_of_ble_eq_true h)]
  | _ => rfl
theorem q_vs_ok {n : Nat} {ad ad2 xd : Nat → Nat} (h1 : ∀ p, p < n → ad2 p = ad p) : ∀ {l : List Value}, q_vs n l = true → l.map (q_cv ad2 xd) = l.map (q_cv ad xd)
  | [], _ => rfl
  | v :: l, h => by
    rw [q_vs] at h
    split at h
    · next hv => rw [List.map_cons, List.map_cons, q_v_ok h1 hv, q_vs_ok h1 h]
    · cases h
theorem q_vl_ok {n : Nat} {ad ad2 xd : Nat → Nat} (h1 : ∀ p, p < n → ad2 p = ad p) : ∀ {l : q_L}, q_vl n l = true → l.map (q_cp ad2 xd) = l.map (q_cp ad xd)
  | [], _ => rfl
  | (i, v) :: l, h => by
    rw [q_vl] at h
    split at h
    · next hv =>
      rw [List.map_cons, List.map_cons, q_vl_ok h1 h]
      simp only [q_cp, q_v_ok h1 hv]
    · cases h
theorem q_vw_ok {n : Nat} {cy : Nat → ClassId} {ad ad2 xd : Nat → Nat} (h1 : ∀ p, p < n → ad2 p = ad p) : ∀ {l : List q_C}, q_vw n l = true → ∀ (k : Nat) (c : q_C), l[k]? = some c → q_cE cy ad2 xd c = q_cE cy ad xd c
  | [], _, k, c, hc => by simp at hc
  | .inl a :: l, h, k, c, hc => by
    cases k with
    | zero => cases hc; rcases a with ⟨kd, n, f | f⟩ <;> rfl
    | succ k => exact q_vw_ok (l := l) h1 h k c hc
  | .inr (ci, fs) :: l, h, k, c, hc => by
    simp only [q_vw] at h
    split at h
    · next hv =>
      cases k with
      | zero => cases hc; simp only [q_cE, q_vs_ok h1 hv]
      | succ k => exact q_vw_ok h1 h k c hc
    · cases h
theorem q_vs_at {n : Nat} : ∀ {l : List Value}, q_vs n l = true → ∀ (j : Nat) (v : Value), l[j]? = some v → q_v n v = true
  | [], _, j, v, hv => by simp at hv
  | x :: l, h, j, v, hv => by
    rw [q_vs] at h
    split at h
    · next hx =>
      cases j with
      | zero => cases hv; exact hx
      | succ j => exact q_vs_at h j v hv
    · cases h
theorem q_vw_at {n : Nat} : ∀ {l : List q_C}, q_vw n l = true → ∀ (k ci : Nat) (fs : List Value), l[k]? = some (.inr (ci, fs)) → q_vs n fs = true
  | [], _, k, ci, fs, hc => by simp at hc
  | .inl a :: l, h, k, ci, fs, hc => by
    cases k with
    | zero => cases hc
    | succ k => exact q_vw_at (l := l) h k ci fs hc
  | .inr (cj, gs) :: l, h, k, ci, fs, hc => by
    simp only [q_vw] at h
    split at h
    · next hv =>
      cases k with
      | zero => cases hc; exact hv
      | succ k => exact q_vw_at h k ci fs hc
    · cases h
