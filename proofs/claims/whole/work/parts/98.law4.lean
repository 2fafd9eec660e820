/-! ===== the same with a token that stands for a place of the caller's (the reference's stop) ===== -/
def q_xq (ad xd : Nat → Nat) (T : Option Nat) : Nat → Nat := fun e => match T with
  | none => xd e
  | some q => if e = 106 then ad q else xd e
theorem q_xq_lt {ad xd : Nat → Nat} {T : Option Nat} : ∀ e, e < 100 → q_xq ad xd T e = xd e := by
  intro e he
  cases T with
  | none => rfl
  | some q => show (if e = 106 then ad q else xd e) = xd e; rw [if_neg (by omega)]
def q_svT (o : Nat) (T : Option Nat) : Value → Value
  | .ref p => .ref (o + p)
  | .retAddr e => match T with
    | none => .retAddr e
    | some q => if e = 106 then .ref q else .retAddr e
  | v => v
def q_sftT (o : Nat) (T : Option Nat) : q_C → q_C
  | .inr (ci, fs) => .inr (ci, fs.map (q_svT o T))
  | .inl a => .inl a
theorem q_cv_svT {ad xd : Nat → Nat} {o : Nat} {T : Option Nat} (v : Value) : q_cv ad xd (q_svT o T v) = q_cv (fun i => ad (o + i)) (q_xq ad xd T) v := by
  cases v with
  | retAddr e =>
    cases T with
    | none => rfl
    | some q =>
      show q_cv ad xd (if e = 106 then .ref q else .retAddr e) = .ref (if e = 106 then ad q else xd e)
      split <;> rfl
  | _ => rfl
theorem q_cvs_svT {ad xd : Nat → Nat} {o : Nat} {T : Option Nat} (l : List Value) : (l.map (q_svT o T)).map (q_cv ad xd) = l.map (q_cv (fun i => ad (o + i)) (q_xq ad xd T)) := by
  rw [List.map_map]
  exact List.map_congr_left (fun v _ => q_cv_svT v)
theorem q_cE_sftT {cy : Nat → ClassId} {ad xd : Nat → Nat} {o : Nat} {T : Option Nat} (c : q_C) : q_cE cy ad xd (q_sftT o T c) = q_cE cy (fun i => ad (o + i)) (q_xq ad xd T) c := by
  rcases c with ⟨k, n, f | f⟩ | ⟨ci, fs⟩
  · rfl
  · rfl
  · simp only [q_sftT, q_cE, q_cvs_svT]
theorem blk_rebT {D : va_G} {cy : Nat → ClassId} {ad ad1 ad2 xd xc : Nat → Nat} {T : Option Nat} {A : Nat → Prop} {o : Nat} {L L' w w' : List q_C} {H H1 : Heap}
    (hP : va_P D vwCl (q_cw cy ad xd 0 L) H) (hD : va_D A (q_cw cy ad xd 0 L))
    (hsub : ∀ (t : Nat) (c : q_C), w[t]? = some c → L[o + t]? = some (q_sftT o T c))
    (hP1 : va_P D vwCl (q_cw cy ad1 xc 0 w') H1) (hD1 : va_D (va_A (q_cw cy (fun i => ad (o + i)) xc 0 w) H.size) (q_cw cy ad1 xc 0 w'))
    (hA : ∀ q, va_A (q_cw cy (fun i => ad (o + i)) xc 0 w) H.size q → A q)
    (hfr : ∀ q : Nat, q < H.size → ¬ va_A (q_cw cy (fun i => ad (o + i)) xc 0 w) H.size q → H1[q]? = H[q]?)
    (hin : ∀ (j : Nat) (c : q_C), w'[j]? = some c → ad2 (o + j) = ad1 j ∧ q_cE cy ad2 xd (q_sftT o T c) = q_cE cy ad1 xc c)
    (hout : ∀ (k : Nat) (c : q_C), L'[k]? = some c → (∃ (j : Nat) (c' : q_C), k = o + j ∧ w'[j]? = some c' ∧ c = q_sftT o T c') ∨ (L[k]? = some c ∧ (k < o ∨ o + w.length ≤ k) ∧ q_cE cy ad2 xd c = q_cE cy ad xd c ∧ ad2 k = ad k)) :
    va_P D vwCl (q_cw cy ad2 xd 0 L') H1 ∧ va_D A (q_cw cy ad2 xd 0 L') := by
  have gw : ∀ {k : Nat} {q : Nat × va_E}, (q_cw cy ad2 xd 0 L')[k]? = some q → ∃ c, L'[k]? = some c ∧ q = (ad2 k, q_cE cy ad2 xd c) := by
    intro k q hq
    rw [q_cw_get] at hq
    cases hc : L'[k]? with
    | none => rw [hc] at hq; cases hq
    | some c => rw [hc] at hq; exact ⟨c, rfl, by rw [Nat.zero_add] at hq; exact (Option.some.inj hq).symm⟩
  have ga : ∀ {k : Nat} {c : q_C}, L[k]? = some c → (q_cw cy ad xd 0 L)[k]? = some (ad k, q_cE cy ad xd c) := by
    intro k c hc
    rw [q_cw_get, hc, Nat.zero_add]; rfl
  have gb : ∀ {k : Nat} {c : q_C}, w'[k]? = some c → (q_cw cy ad1 xc 0 w')[k]? = some (ad1 k, q_cE cy ad1 xc c) := by
    intro k c hc
    rw [q_cw_get, hc, Nat.zero_add]; rfl
  have hA1 : ∀ q, va_A (q_cw cy (fun i => ad (o + i)) xc 0 w) H.size q → (∃ t c, w[t]? = some c ∧ q = ad (o + t)) ∨ H.size ≤ q := by
    intro q hq
    rcases hq with ⟨t, e, ht⟩ | hq
    · rw [q_cw_get] at ht
      cases hc : w[t]? with
      | none => rw [hc] at ht; cases ht
      | some c =>
        rw [hc] at ht
        have e1 := congrArg Prod.fst (Option.some.inj ht)
        simp only [Nat.zero_add] at e1
        exact Or.inl ⟨t, c, hc, e1.symm⟩
    · exact Or.inr hq
  have out : ∀ {k : Nat} {c : q_C}, L[k]? = some c → (k < o ∨ o + w.length ≤ k) → ad k < H.size ∧ ¬ va_A (q_cw cy (fun i => ad (o + i)) xc 0 w) H.size (ad k) := by
    intro k c hc hk
    have hl : ad k < H.size := (hP k _ (ga hc)).lt
    refine ⟨hl, fun z => ?_⟩
    rcases hA1 _ z with ⟨t, d, ht, hq⟩ | z
    · have h3 : k = o + t := hD.1 _ _ _ _ (ga hc) (ga (hsub t d ht)) hq
      have h4 : t < w.length := (List.getElem?_eq_some_iff.mp ht).1
      omega
    · omega
  refine ⟨fun k q hq => ?_, fun i j x y hi hj hxy => ?_, fun k q hq => ?_⟩
  · obtain ⟨c, hc, rfl⟩ := gw hq
    rcases hout k c hc with ⟨j, c', rfl, hj, rfl⟩ | ⟨h1, h2, h3, h4⟩
    · obtain ⟨a1, a2⟩ := hin j c' hj
      rw [a1, a2]
      exact hP1 j _ (gb hj)
    · rw [h3, h4]
      exact (hP k _ (ga h1)).kept (hfr _ (out h1 h2).1 (out h1 h2).2)
  · obtain ⟨c, hc, rfl⟩ := gw hi
    obtain ⟨d, hd, rfl⟩ := gw hj
    have hxy : ad2 i = ad2 j := hxy
    rcases hout i c hc with ⟨a, c', rfl, ha, rfl⟩ | ⟨h1, h2, h3, h4⟩ <;> rcases hout j d hd with ⟨b, d', rfl, hb, rfl⟩ | ⟨g1, g2, g3, g4⟩
    · rw [(hin a c' ha).1, (hin b d' hb).1] at hxy
      have h9 : a = b := hD1.1 _ _ _ _ (gb ha) (gb hb) hxy
      rw [h9]
    · have hxy : ad1 a = ad j := by rw [← (hin a c' ha).1, ← g4]; exact hxy
      have z := hD1.2 a _ (gb ha)
      dsimp only at z
      rw [hxy] at z
      exact ((out g1 g2).2 z).elim
    · have hxy : ad i = ad1 b := by rw [← (hin b d' hb).1, ← h4]; exact hxy
      have z := hD1.2 b _ (gb hb)
      dsimp only at z
      rw [← hxy] at z
      exact ((out h1 h2).2 z).elim
    · rw [h4, g4] at hxy
      exact hD.1 _ _ _ _ (ga h1) (ga g1) hxy
  · obtain ⟨c, hc, rfl⟩ := gw hq
    show A (ad2 k)
    rcases hout k c hc with ⟨j, c', rfl, hj, rfl⟩ | ⟨h1, h2, h3, h4⟩
    · rw [(hin j c' hj).1]
      exact hA _ (hD1.2 j _ (gb hj))
    · rw [h4]
      exact hD.2 k _ (ga h1)
theorem blk_getT {T : Option Nat} {pre w tail : List q_C} {o k : Nat} (ho : pre.length = o) {c : q_C} (h : (pre ++ w.map (q_sftT o T) ++ tail)[k]? = some c) : (∃ j c', k = o + j ∧ w[j]? = some c' ∧ c = q_sftT o T c') ∨ (k < o ∧ pre[k]? = some c) ∨ (o + w.length ≤ k ∧ tail[k - (o + w.length)]? = some c) := by
  rw [List.append_assoc] at h
  by_cases h1 : k < o
  · rw [List.getElem?_append_left (by omega)] at h
    exact Or.inr (Or.inl ⟨h1, h⟩)
  · rw [List.getElem?_append_right (by omega), ho] at h
    by_cases h2 : k - o < w.length
    · rw [List.getElem?_append_left (by rw [List.length_map]; exact h2), List.getElem?_map] at h
      cases hc : w[k - o]? with
      | none => rw [hc] at h; cases h
      | some c' =>
        rw [hc] at h
        exact Or.inl ⟨k - o, c', by omega, hc, (Option.some.inj h).symm⟩
    · rw [List.getElem?_append_right (by rw [List.length_map]; omega), List.length_map] at h
      exact Or.inr (Or.inr ⟨by omega, by rw [show k - (o + w.length) = k - o - w.length by omega]; exact h⟩)
theorem blk_atT {T : Option Nat} {pre w tail : List q_C} {o t : Nat} (ho : pre.length = o) {c : q_C} (h : w[t]? = some c) : (pre ++ w.map (q_sftT o T) ++ tail)[o + t]? = some (q_sftT o T c) := by
  have ht : t < w.length := (List.getElem?_eq_some_iff.mp h).1
  rw [List.append_assoc, List.getElem?_append_right (by omega), ho, show o + t - o = t by omega, List.getElem?_append_left (by rw [List.length_map]; exact ht), List.getElem?_map, h]
  rfl
theorem blk_preT {T : Option Nat} {pre w tail : List q_C} {o k : Nat} (ho : pre.length = o) (hk : k < o) : (pre ++ w.map (q_sftT o T) ++ tail)[k]? = pre[k]? := by
  rw [List.append_assoc, List.getElem?_append_left (by omega)]
theorem blk_tailT {T : Option Nat} {pre w tail : List q_C} {o k : Nat} (ho : pre.length = o) (hk : o + w.length ≤ k) : (pre ++ w.map (q_sftT o T) ++ tail)[k]? = tail[k - (o + w.length)]? := by
  rw [List.append_assoc, List.getElem?_append_right (by omega), ho, List.getElem?_append_right (by rw [List.length_map]; omega), List.length_map, show k - o - w.length = k - (o + w.length) by omega]
section BLK
variable {p : Program} {l : Launch} {e : Env} {R : Room} {s : State} {m : MethodId} {args : Array Value} {below : List Frame} {meth : Method} {c : Code} {own : String} {cc : ByteArray} {D : va_G} {cy : Nat → ClassId} {xd xv : Nat → Nat} {A : Nat → Prop} {ad0 : Nat → Nat} {Q : State → Prop} {E : q_E}
theorem blk_callT {pc n rc mc ms nL o : Nat} {sp : q_P} (hRH : q_RH p l e R s m args below meth c D cy xd xv A nL pc n rc mc ms sp) (hK : va_K D vwCl (q_tys cy) s) (hA : ∀ q, s.heap.size ≤ q → A q) (hamb : q_Amb xd xv A s s.heap)
    (T : Option Nat) {pre w tail : List q_C} {lv : q_L} {as rest : List Value} {ca sl : Nat} (K : q_K) (ho : pre.length = o) (hn : as.length = n) (hrc : q_rc rc (as.map (q_svT o T)) (pre ++ w.map (q_sftT o T) ++ tail) = true) (h8 : q_r8 rc (as.map (q_svT o T)) = true) (hcat : q_cats rest ≤ 8) (hsp : sp as w K) (hca0 : ca + mc ≤ R.cells) (hsl0 : sl + ms ≤ R.slots)
    (k0 : ∀ v w', ¬ K (.inr v) w')
    (k1 : ∀ r w', K (.inl r) w' → (w'.length = w.length ∨ (w.length ≤ w'.length ∧ tail = [] ∧ T = none ∧ q_vl (o + w.length) lv = true ∧ q_vs (o + w.length) rest = true ∧ q_vw (o + w.length) pre = true)) ∧ q_vw w'.length w' = true ∧ q_vs w'.length r.toList = true ∧ q_W p l e R s m args below meth c D cy xd A 0 ad0 nL Q (pc + 3) lv ((r.map (q_svT o T)).toList ++ rest) (pre ++ w'.map (q_sftT o T) ++ tail) (ca + mc) (sl + ms)) :
    q_W p l e R s m args below meth c D cy xd A 0 ad0 nL Q pc lv ((as.map (q_svT o T)).reverse ++ rest) (pre ++ w.map (q_sftT o T) ++ tail) ca sl := by
  intro hca hsl ad ls H locs hn0 had hlv hP hD hS
  have hsub : ∀ (t : Nat) (c : q_C), w[t]? = some c → (pre ++ w.map (q_sftT o T) ++ tail)[o + t]? = some (q_sftT o T c) := fun t c h => blk_atT ho h
  have hPs : va_P D vwCl (q_cw cy (fun i => ad (o + i)) (q_xq ad xd T) 0 w) H := by
    intro k q hq
    rw [q_cw_get] at hq
    cases hc : w[k]? with
    | none => rw [hc] at hq; cases hq
    | some c =>
      rw [hc] at hq
      rw [← Option.some.inj hq, Nat.zero_add]
      show va_at D vwCl (ad (o + k), q_cE cy (fun i => ad (o + i)) (q_xq ad xd T) c) H
      rw [← q_cE_sftT]
      exact hP (o + k) _ (by rw [q_cw_get, hsub k c hc, Nat.zero_add]; rfl)
  have hDs : va_D A (q_cw cy (fun i => ad (o + i)) (q_xq ad xd T) 0 w) := by
    have key : ∀ {k : Nat} {q : Nat × va_E}, (q_cw cy (fun i => ad (o + i)) (q_xq ad xd T) 0 w)[k]? = some q → ∃ e, (q_cw cy ad xd 0 (pre ++ w.map (q_sftT o T) ++ tail))[o + k]? = some (q.1, e) := by
      intro k q hq
      rw [q_cw_get] at hq
      cases hc : w[k]? with
      | none => rw [hc] at hq; cases hq
      | some c =>
        rw [hc] at hq
        rw [← Option.some.inj hq, Nat.zero_add]
        exact ⟨_, by rw [q_cw_get, hsub k c hc, Nat.zero_add]; rfl⟩
    refine ⟨fun i j x y hi hj hxy => ?_, fun k q hq => ?_⟩
    · obtain ⟨e1, h1⟩ := key hi
      obtain ⟨e2, h2⟩ := key hj
      have := hD.1 _ _ _ _ h1 h2 hxy
      omega
    · obtain ⟨e1, h1⟩ := key hq
      exact hD.2 _ (q.1, e1) h1
  have hAs := q_subA hDs hS hA
  have has : as.map (q_cv (fun i => ad (o + i)) (q_xq ad xd T)) = (as.map (q_svT o T)).map (q_cv ad xd) := (q_cvs_svT as).symm
  have hPc : ∀ U : State, U.heap = H → s.WarmedH U.vm → q_Pc D cy (fun i => ad (o + i)) (q_xq ad xd T) xv as w H.size (((as.map (q_svT o T)).map (q_cv ad xd)).toArray) U := by
    intro U hU hW
    refine ⟨by rw [has], by rw [hU], by rw [hU]; exact hPs, hK.moved hW.alike, hDs.weaken (fun _ _ _ _ => trivial), ?_⟩
    exact (hamb.move hW (fun a h1 h2 => by rw [hU]; exact hS.2.1 a h1 h2) hAs).xd q_xq_lt
  have run := hRH ad ls H locs ca sl _ (as.map (q_svT o T)) rest as (fun i => ad (o + i)) (q_xq ad xd T) w K hlv.1 (by rw [List.length_map]; exact hn) has hrc h8 hcat hca0 hsl0 hP hS hPc hsp
  refine q_after run hS hAs ?_ ?_
  · intro r w' ad1 H1 locs1 hKK ha1 hP1 hD1 hfr hS1
    obtain ⟨hlen, hv, hvr, hW⟩ := k1 r w' hKK
    let ad2 : Nat → Nat := fun i => if o ≤ i ∧ i < o + w'.length then ad1 (i - o) else ad i
    have a1 : ∀ j, j < w'.length → ad2 (o + j) = ad1 j := fun j hj => by
      show (if o ≤ o + j ∧ o + j < o + w'.length then ad1 (o + j - o) else ad (o + j)) = ad1 j
      rw [if_pos ⟨by omega, by omega⟩, show o + j - o = j by omega]
    have a2 : ∀ i, i < o + w.length → ad2 i = ad i := fun i hi => by
      show (if o ≤ i ∧ i < o + w'.length then ad1 (i - o) else ad i) = ad i
      split
      · next h =>
        rw [ha1 (i - o) (by omega)]
        show ad (o + (i - o)) = ad i
        rw [show o + (i - o) = i by omega]
      · rfl
    have a3 : w'.length = w.length → ad2 = ad := fun h => by
      funext i
      by_cases h1 : i < o + w.length
      · exact a2 i h1
      · show (if o ≤ i ∧ i < o + w'.length then ad1 (i - o) else ad i) = ad i
        rw [if_neg (by omega)]
    have a4 : q_xq ad2 xd T = q_xq ad xd T := by
      rcases hlen with h | ⟨-, -, h, -⟩
      · rw [a3 h]
      · rw [h]; rfl
    have hin : ∀ (j : Nat) (c : q_C), w'[j]? = some c → ad2 (o + j) = ad1 j ∧ q_cE cy ad2 xd (q_sftT o T c) = q_cE cy ad1 (q_xq ad xd T) c := fun j c hc =>
      ⟨a1 j (List.getElem?_eq_some_iff.mp hc).1, by
        rw [q_cE_sftT, a4]
        exact q_vw_ok (fun p hp => a1 p hp) hv j c hc⟩
    have er : (r.map (q_svT o T)).toList.map (q_cv ad2 xd) = (r.map (q_cv ad1 (q_xq ad xd T))).toList := by
      cases r with
      | none => rfl
      | some v =>
        show [q_cv ad2 xd (q_svT o T v)] = [q_cv ad1 (q_xq ad xd T) v]
        rw [q_cv_svT, a4]
        exact q_vs_ok (l := [v]) (fun p hp => a1 p hp) hvr
    have hout : ∀ (k : Nat) (c : q_C), (pre ++ w'.map (q_sftT o T) ++ tail)[k]? = some c → (∃ (j : Nat) (c' : q_C), k = o + j ∧ w'[j]? = some c' ∧ c = q_sftT o T c') ∨ ((pre ++ w.map (q_sftT o T) ++ tail)[k]? = some c ∧ (k < o ∨ o + w.length ≤ k) ∧ q_cE cy ad2 xd c = q_cE cy ad xd c ∧ ad2 k = ad k) := by
      intro k c hc
      rcases blk_getT ho hc with h | ⟨h1, h2⟩ | ⟨h1, h2⟩
      · exact Or.inl h
      · refine Or.inr ⟨by rw [blk_preT ho h1]; exact h2, Or.inl h1, ?_, a2 k (by omega)⟩
        rcases hlen with h | ⟨-, -, -, -, -, h⟩
        · rw [a3 h]
        · exact q_vw_ok a2 h k c h2
      · rcases hlen with h | ⟨-, h, -⟩
        · refine Or.inr ⟨by rw [blk_tailT ho (by omega), ← h]; exact h2, Or.inr (by omega), by rw [a3 h], by rw [a3 h]⟩
        · rw [h] at h2
          simp at h2
    obtain ⟨r1, r2⟩ := blk_rebT (T := T) (L' := pre ++ w'.map (q_sftT o T) ++ tail) (ad2 := ad2) hP hD hsub hP1 hD1 hAs hfr hin hout
    have elv : lv.map (q_cp ad2 xd) = lv.map (q_cp ad xd) := by
      rcases hlen with h | ⟨-, -, -, h, -⟩
      · rw [a3 h]
      · exact q_vl_ok a2 h
    have ers : rest.map (q_cv ad2 xd) = rest.map (q_cv ad xd) := by
      rcases hlen with h | ⟨-, -, -, -, h, -⟩
      · rw [a3 h]
      · exact q_vs_ok a2 h
    have := hW hca0 hsl0 ad2 ls H1 locs1 (Nat.zero_le _) (fun i hi => absurd hi (Nat.not_lt_zero i)) (by rw [elv]; exact hlv) r1 r2 hS1
    rw [List.map_append, er, ers] at this
    exact this
  · intro p0 fs w' ad1 H1 locs1 hfs hKK
    exact (k0 _ _ hKK).elim
theorem renumT {pc nL : Nat} {σ : List Nat} {aw : List q_C} {lv lv2 : q_L} {st : List Value} {ca sl : Nat} (hnd : q_nd σ = true) (hlv : ∀ ad : Nat → Nat, lv2.map (q_cp (q_ad ad σ) (q_xd ad xd σ aw)) = lv.map (q_cp ad xd)) (hst : ∀ ad : Nat → Nat, st.map (q_cv (q_ad ad σ) (q_xd ad xd σ aw)) = st.map (q_cv ad xd))
    (h : q_lw aw σ σ 0 (fun w => ∀ xd' : Nat → Nat, (∀ e, e < 100 → xd' e = xd e) → q_W p l e R s m args below meth c D cy xd' A 0 ad0 nL Q pc lv2 st w ca sl)) : q_W p l e R s m args below meth c D cy xd A 0 ad0 nL Q pc lv st aw ca sl := by
  intro hca hsl ad ls H locs hn0 had hlv0 hP hD hS
  obtain ⟨w, h, hwl, hsub⟩ := q_lw_ok (cy := cy) (ad := ad) (xd := xd) σ 0 _ (fun t => by rw [Nat.zero_add]) h
  have := h (q_xd ad xd σ aw) (fun e he => by simp only [q_xd, if_pos he]) hca hsl (q_ad ad σ) ls H locs (Nat.zero_le _) (fun i hi => absurd hi (Nat.not_lt_zero i)) (by rw [hlv]; exact hlv0) (q_subP hP hwl hsub) (q_subD hD (q_nd_ok hnd) hwl hsub) hS
  rw [hst] at this
  exact this
end BLK

