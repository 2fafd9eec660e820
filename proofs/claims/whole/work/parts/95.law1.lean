/-! ===== the law: blocks of the world, calls on a block ===== -/
def q_sv (o : Nat) : Value → Value
  | .ref p => .ref (o + p)
  | v => v
def q_sft (o : Nat) : q_C → q_C
  | .inr (ci, fs) => .inr (ci, fs.map (q_sv o))
  | .inl a => .inl a
theorem q_cv_sv {ad xd : Nat → Nat} {o : Nat} (v : Value) : q_cv ad xd (q_sv o v) = q_cv (fun i => ad (o + i)) xd v := by cases v <;> rfl
theorem q_cvs_sv {ad xd : Nat → Nat} {o : Nat} (l : List Value) : (l.map (q_sv o)).map (q_cv ad xd) = l.map (q_cv (fun i => ad (o + i)) xd) := by
  rw [List.map_map]
  exact List.map_congr_left (fun v _ => q_cv_sv v)
theorem q_cE_sft {cy : Nat → ClassId} {ad xd : Nat → Nat} {o : Nat} (c : q_C) : q_cE cy ad xd (q_sft o c) = q_cE cy (fun i => ad (o + i)) xd c := by
  rcases c with ⟨k, n, f | f⟩ | ⟨ci, fs⟩
  · rfl
  · rfl
  · simp only [q_sft, q_cE, q_cvs_sv]
theorem blk_reb {D : va_G} {cy : Nat → ClassId} {ad ad1 ad2 xd : Nat → Nat} {A : Nat → Prop} {o : Nat} {L L' w w' : List q_C} {H H1 : Heap}
    (hP : va_P D vwCl (q_cw cy ad xd 0 L) H) (hD : va_D A (q_cw cy ad xd 0 L))
    (hsub : ∀ (t : Nat) (c : q_C), w[t]? = some c → L[o + t]? = some (q_sft o c))
    (hP1 : va_P D vwCl (q_cw cy ad1 xd 0 w') H1) (hD1 : va_D (va_A (q_cw cy (fun i => ad (o + i)) xd 0 w) H.size) (q_cw cy ad1 xd 0 w'))
    (hA : ∀ q, va_A (q_cw cy (fun i => ad (o + i)) xd 0 w) H.size q → A q)
    (hfr : ∀ q : Nat, q < H.size → ¬ va_A (q_cw cy (fun i => ad (o + i)) xd 0 w) H.size q → H1[q]? = H[q]?)
    (hin : ∀ (j : Nat) (c : q_C), w'[j]? = some c → ad2 (o + j) = ad1 j ∧ q_cE cy ad2 xd (q_sft o c) = q_cE cy ad1 xd c)
    (hout : ∀ (k : Nat) (c : q_C), L'[k]? = some c → (∃ (j : Nat) (c' : q_C), k = o + j ∧ w'[j]? = some c' ∧ c = q_sft o c') ∨ (L[k]? = some c ∧ (k < o ∨ o + w.length ≤ k) ∧ q_cE cy ad2 xd c = q_cE cy ad xd c ∧ ad2 k = ad k)) :
    va_P D vwCl (q_cw cy ad2 xd 0 L') H1 ∧ va_D A (q_cw cy ad2 xd 0 L') := by
  have gw : ∀ {k : Nat} {q : Nat × va_E}, (q_cw cy ad2 xd 0 L')[k]? = some q → ∃ c, L'[k]? = some c ∧ q = (ad2 k, q_cE cy ad2 xd c) := by
    intro k q hq
    rw [q_cw_get] at hq
    cases hc : L'[k]? with
    | none => rw [hc] at hq; cases hq
    | some c => rw [hc] at hq; exact ⟨c, rfl, by rw [Nat.zero_add] at hq; exact (Option.some.inj hq).symm⟩
  have ga : ∀ {k : Nat} {c : q_C}, L[k]? = some c → (q_cw cy ad xd 0 L)[k]? = some (ad k, q_cE cy ad xd c) := by
    intro k c hc
    rw [q_cw_get, hc, Nat.zero_add]; rfl
  have gb : ∀ {k : Nat} {c : q_C}, w'[k]? = some c → (q_cw cy ad1 xd 0 w')[k]? = some (ad1 k, q_cE cy ad1 xd c) := by
    intro k c hc
    rw [q_cw_get, hc, Nat.zero_add]; rfl
  have hA1 : ∀ q, va_A (q_cw cy (fun i => ad (o + i)) xd 0 w) H.size q → (∃ t c, w[t]? = some c ∧ q = ad (o + t)) ∨ H.size ≤ q := by
    intro q hq
    rcases hq with ⟨t, e, ht⟩ | hq
    · rw [q_cw_get] at ht
      cases hc : w[t]? with
      | none => rw [hc] at ht; cases ht
      | some c =>
        rw [hc] at ht
        have e1 := congrArg Prod.fst (Option.some.inj ht)
        simp only [Nat.zero_add] at e1
        exact Or.inl ⟨t, c, hc, e1.symm⟩
    · exact Or.inr hq
  have out : ∀ {k : Nat} {c : q_C}, L[k]? = some c → (k < o ∨ o + w.length ≤ k) → ad k < H.size ∧ ¬ va_A (q_cw cy (fun i => ad (o + i)) xd 0 w) H.size (ad k) := by
    intro k c hc hk
    have hl : ad k < H.size := (hP k _ (ga hc)).lt
    refine ⟨hl, fun z => ?_⟩
    rcases hA1 _ z with ⟨t, d, ht, hq⟩ | z
    · have h3 : k = o + t := hD.1 _ _ _ _ (ga hc) (ga (hsub t d ht)) hq
      have h4 : t < w.length := (List.getElem?_eq_some_iff.mp ht).1
      omega
    · omega
  refine ⟨fun k q hq => ?_, fun i j x y hi hj hxy => ?_, fun k q hq => ?_⟩
  · obtain ⟨c, hc, rfl⟩ := gw hq
    rcases hout k c hc with ⟨j, c', rfl, hj, rfl⟩ | ⟨h1, h2, h3, h4⟩
    · obtain ⟨a1, a2⟩ := hin j c' hj
      rw [a1, a2]
      exact hP1 j _ (gb hj)
    · rw [h3, h4]
      exact (hP k _ (ga h1)).kept (hfr _ (out h1 h2).1 (out h1 h2).2)
  · obtain ⟨c, hc, rfl⟩ := gw hi
    obtain ⟨d, hd, rfl⟩ := gw hj
    have hxy : ad2 i = ad2 j := hxy
    rcases hout i c hc with ⟨a, c', rfl, ha, rfl⟩ | ⟨h1, h2, h3, h4⟩ <;> rcases hout j d hd with ⟨b, d', rfl, hb, rfl⟩ | ⟨g1, g2, g3, g4⟩
    · rw [(hin a c' ha).1, (hin b d' hb).1] at hxy
      have h9 : a = b := hD1.1 _ _ _ _ (gb ha) (gb hb) hxy
      rw [h9]
    · have hxy : ad1 a = ad j := by rw [← (hin a c' ha).1, ← g4]; exact hxy
      have z := hD1.2 a _ (gb ha)
      dsimp only at z
      rw [hxy] at z
      exact ((out g1 g2).2 z).elim
    · have hxy : ad i = ad1 b := by rw [← (hin b d' hb).1, ← h4]; exact hxy
      have z := hD1.2 b _ (gb hb)
      dsimp only at z
      rw [← hxy] at z
      exact ((out h1 h2).2 z).elim
    · rw [h4, g4] at hxy
      exact hD.1 _ _ _ _ (ga h1) (ga g1) hxy
  · obtain ⟨c, hc, rfl⟩ := gw hq
    show A (ad2 k)
    rcases hout k c hc with ⟨j, c', rfl, hj, rfl⟩ | ⟨h1, h2, h3, h4⟩
    · rw [(hin j c' hj).1]
      exact hA _ (hD1.2 j _ (gb hj))
    · rw [h4]
      exact hD.2 k _ (ga h1)
theorem blk_get {pre w tail : List q_C} {o k : Nat} (ho : pre.length = o) {c : q_C} (h : (pre ++ w.map (q_sft o) ++ tail)[k]? = some c) : (∃ j c', k = o + j ∧ w[j]? = some c' ∧ c = q_sft o c') ∨ (k < o ∧ pre[k]? = some c) ∨ (o + w.length ≤ k ∧ tail[k - (o + w.length)]? = some c) := by
  rw [List.append_assoc] at h
  by_cases h1 : k < o
  · rw [List.getElem?_append_left (by omega)] at h
    exact Or.inr (Or.inl ⟨h1, h⟩)
  · rw [List.getElem?_append_right (by omega), ho] at h
    by_cases h2 : k - o < w.length
    · rw [List.getElem?_append_left (by rw [List.length_map]; exact h2), List.getElem?_map] at h
      cases hc : w[k - o]? with
      | none => rw [hc] at h; cases h
      | some c' =>
        rw [hc] at h
        exact Or.inl ⟨k - o, c', by omega, hc, (Option.some.inj h).symm⟩
    · rw [List.getElem?_append_right (by rw [List.length_map]; omega), List.length_map] at h
      exact Or.inr (Or.inr ⟨by omega, by rw [show k - (o + w.length) = k - o - w.length by omega]; exact h⟩)
theorem blk_at {pre w tail : List q_C} {o t : Nat} (ho : pre.length = o) {c : q_C} (h : w[t]? = some c) : (pre ++ w.map (q_sft o) ++ tail)[o + t]? = some (q_sft o c) := by
  have ht : t < w.length := (List.getElem?_eq_some_iff.mp h).1
  rw [List.append_assoc, List.getElem?_append_right (by omega), ho, show o + t - o = t by omega, List.getElem?_append_left (by rw [List.length_map]; exact ht), List.getElem?_map, h]
  rfl
theorem blk_pre {pre w tail : List q_C} {o k : Nat} (ho : pre.length = o) (hk : k < o) : (pre ++ w.map (q_sft o) ++ tail)[k]? = pre[k]? := by
  rw [List.append_assoc, List.getElem?_append_left (by omega)]
theorem blk_tail {pre w tail : List q_C} {o k : Nat} (ho : pre.length = o) (hk : o + w.length ≤ k) : (pre ++ w.map (q_sft o) ++ tail)[k]? = tail[k - (o + w.length)]? := by
  rw [List.append_assoc, List.getElem?_append_right (by omega), ho, List.getElem?_append_right (by rw [List.length_map]; omega), List.length_map, show k - o - w.length = k - (o + w.length) by omega]
section BLK
variable {p : Program} {l : Launch} {e : Env} {R : Room} {s : State} {m : MethodId} {args : Array Value} {below : List Frame} {meth : Method} {c : Code} {own : String} {cc : ByteArray} {D : va_G} {cy : Nat → ClassId} {xd xv : Nat → Nat} {A : Nat → Prop} {ad0 : Nat → Nat} {Q : State → Prop} {E : q_E}
theorem blk_call {pc n rc mc ms nL o : Nat} {sp : q_P} (hRH : q_RH p l e R s m args below meth c D cy xd xv A nL pc n rc mc ms sp) (hK : va_K D vwCl (q_tys cy) s) (hA : ∀ q, s.heap.size ≤ q → A q) (hamb : q_Amb xd xv A s s.heap)
    {pre w tail : List q_C} {lv : q_L} {as rest : List Value} {ca sl : Nat} (K : q_K) (ho : pre.length = o) (hn : as.length = n) (hrc : q_rc rc (as.map (q_sv o)) (pre ++ w.map (q_sft o) ++ tail) = true) (h8 : q_r8 rc (as.map (q_sv o)) = true) (hcat : q_cats rest ≤ 8) (hsp : sp as w K) (hca0 : ca + mc ≤ R.cells) (hsl0 : sl + ms ≤ R.slots)
    (k0 : ∀ v w', ¬ K (.inr v) w')
    (k1 : ∀ r w', K (.inl r) w' → (w'.length = w.length ∨ (w.length ≤ w'.length ∧ tail = [] ∧ q_vl (o + w.length) lv = true ∧ q_vs (o + w.length) rest = true ∧ q_vw (o + w.length) pre = true)) ∧ q_vw w'.length w' = true ∧ q_vs w'.length r.toList = true ∧ q_W p l e R s m args below meth c D cy xd A 0 ad0 nL Q (pc + 3) lv ((r.map (q_sv o)).toList ++ rest) (pre ++ w'.map (q_sft o) ++ tail) (ca + mc) (sl + ms)) :
    q_W p l e R s m args below meth c D cy xd A 0 ad0 nL Q pc lv ((as.map (q_sv o)).reverse ++ rest) (pre ++ w.map (q_sft o) ++ tail) ca sl := by
  intro hca hsl ad ls H locs hn0 had hlv hP hD hS
  have hsub : ∀ (t : Nat) (c : q_C), w[t]? = some c → (pre ++ w.map (q_sft o) ++ tail)[o + t]? = some (q_sft o c) := fun t c h => blk_at ho h
  have hPs : va_P D vwCl (q_cw cy (fun i => ad (o + i)) xd 0 w) H := by
    intro k q hq
    rw [q_cw_get] at hq
    cases hc : w[k]? with
    | none => rw [hc] at hq; cases hq
    | some c =>
      rw [hc] at hq
      rw [← Option.some.inj hq, Nat.zero_add]
      show va_at D vwCl (ad (o + k), q_cE cy (fun i => ad (o + i)) xd c) H
      rw [← q_cE_sft]
      exact hP (o + k) _ (by rw [q_cw_get, hsub k c hc, Nat.zero_add]; rfl)
  have hDs : va_D A (q_cw cy (fun i => ad (o + i)) xd 0 w) := by
    have key : ∀ {k : Nat} {q : Nat × va_E}, (q_cw cy (fun i => ad (o + i)) xd 0 w)[k]? = some q → ∃ e, (q_cw cy ad xd 0 (pre ++ w.map (q_sft o) ++ tail))[o + k]? = some (q.1, e) := by
      intro k q hq
      rw [q_cw_get] at hq
      cases hc : w[k]? with
      | none => rw [hc] at hq; cases hq
      | some c =>
        rw [hc] at hq
        rw [← Option.some.inj hq, Nat.zero_add]
        exact ⟨_, by rw [q_cw_get, hsub k c hc, Nat.zero_add]; rfl⟩
    refine ⟨fun i j x y hi hj hxy => ?_, fun k q hq => ?_⟩
    · obtain ⟨e1, h1⟩ := key hi
      obtain ⟨e2, h2⟩ := key hj
      have := hD.1 _ _ _ _ h1 h2 hxy
      omega
    · obtain ⟨e1, h1⟩ := key hq
      exact hD.2 _ (q.1, e1) h1
  have hAs := q_subA hDs hS hA
  have has : as.map (q_cv (fun i => ad (o + i)) xd) = (as.map (q_sv o)).map (q_cv ad xd) := (q_cvs_sv as).symm
  have hPc : ∀ U : State, U.heap = H → s.WarmedH U.vm → q_Pc D cy (fun i => ad (o + i)) xd xv as w H.size (((as.map (q_sv o)).map (q_cv ad xd)).toArray) U := by
    intro U hU hW
    refine ⟨by rw [has], by rw [hU], by rw [hU]; exact hPs, hK.moved hW.alike, hDs.weaken (fun _ _ _ _ => trivial), ?_⟩
    exact hamb.move hW (fun a h1 h2 => by rw [hU]; exact hS.2.1 a h1 h2) hAs
  have run := hRH ad ls H locs ca sl _ (as.map (q_sv o)) rest as (fun i => ad (o + i)) xd w K hlv.1 (by rw [List.length_map]; exact hn) has hrc h8 hcat hca0 hsl0 hP hS hPc hsp
  refine q_after run hS hAs ?_ ?_
  · intro r w' ad1 H1 locs1 hKK ha1 hP1 hD1 hfr hS1
    obtain ⟨hlen, hv, hvr, hW⟩ := k1 r w' hKK
    let ad2 : Nat → Nat := fun i => if o ≤ i ∧ i < o + w'.length then ad1 (i - o) else ad i
    have a1 : ∀ j, j < w'.length → ad2 (o + j) = ad1 j := fun j hj => by
      show (if o ≤ o + j ∧ o + j < o + w'.length then ad1 (o + j - o) else ad (o + j)) = ad1 j
      rw [if_pos ⟨by omega, by omega⟩, show o + j - o = j by omega]
    have a2 : ∀ i, i < o + w.length → ad2 i = ad i := fun i hi => by
      show (if o ≤ i ∧ i < o + w'.length then ad1 (i - o) else ad i) = ad i
      split
      · next h =>
        rw [ha1 (i - o) (by omega)]
        show ad (o + (i - o)) = ad i
        rw [show o + (i - o) = i by omega]
      · rfl
    have a3 : w'.length = w.length → ad2 = ad := fun h => by
      funext i
      by_cases h1 : i < o + w.length
      · exact a2 i h1
      · show (if o ≤ i ∧ i < o + w'.length then ad1 (i - o) else ad i) = ad i
        rw [if_neg (by omega)]
    have hin : ∀ (j : Nat) (c : q_C), w'[j]? = some c → ad2 (o + j) = ad1 j ∧ q_cE cy ad2 xd (q_sft o c) = q_cE cy ad1 xd c := fun j c hc =>
      ⟨a1 j (List.getElem?_eq_some_iff.mp hc).1, by
        rw [q_cE_sft]
        exact q_vw_ok (fun p hp => a1 p hp) hv j c hc⟩
    have er : (r.map (q_sv o)).toList.map (q_cv ad2 xd) = (r.map (q_cv ad1 xd)).toList := by
      cases r with
      | none => rfl
      | some v =>
        show [q_cv ad2 xd (q_sv o v)] = [q_cv ad1 xd v]
        rw [q_cv_sv]
        exact q_vs_ok (l := [v]) (fun p hp => a1 p hp) hvr
    have hout : ∀ (k : Nat) (c : q_C), (pre ++ w'.map (q_sft o) ++ tail)[k]? = some c → (∃ (j : Nat) (c' : q_C), k = o + j ∧ w'[j]? = some c' ∧ c = q_sft o c') ∨ ((pre ++ w.map (q_sft o) ++ tail)[k]? = some c ∧ (k < o ∨ o + w.length ≤ k) ∧ q_cE cy ad2 xd c = q_cE cy ad xd c ∧ ad2 k = ad k) := by
      intro k c hc
      rcases blk_get ho hc with h | ⟨h1, h2⟩ | ⟨h1, h2⟩
      · exact Or.inl h
      · refine Or.inr ⟨by rw [blk_pre ho h1]; exact h2, Or.inl h1, ?_, a2 k (by omega)⟩
        rcases hlen with h | ⟨-, -, -, -, h⟩
        · rw [a3 h]
        · exact q_vw_ok a2 h k c h2
      · rcases hlen with h | ⟨-, h, -⟩
        · refine Or.inr ⟨by rw [blk_tail ho (by omega), ← h]; exact h2, Or.inr (by omega), by rw [a3 h], by rw [a3 h]⟩
        · rw [h] at h2
          simp at h2
    obtain ⟨r1, r2⟩ := blk_reb (L' := pre ++ w'.map (q_sft o) ++ tail) (ad2 := ad2) hP hD hsub hP1 hD1 hAs hfr hin hout
    have elv : lv.map (q_cp ad2 xd) = lv.map (q_cp ad xd) := by
      rcases hlen with h | ⟨-, -, h, -⟩
      · rw [a3 h]
      · exact q_vl_ok a2 h
    have ers : rest.map (q_cv ad2 xd) = rest.map (q_cv ad xd) := by
      rcases hlen with h | ⟨-, -, -, h, -⟩
      · rw [a3 h]
      · exact q_vs_ok a2 h
    have := hW hca0 hsl0 ad2 ls H1 locs1 (Nat.zero_le _) (fun i hi => absurd hi (Nat.not_lt_zero i)) (by rw [elv]; exact hlv) r1 r2 hS1
    rw [List.map_append, er, ers] at this
    exact this
  · intro p0 fs w' ad1 H1 locs1 hfs hKK
    exact (k0 _ _ hKK).elim
theorem renum_ok {pc nL : Nat} {σ : List Nat} {aw : List q_C} {lv : q_L} {st : List Value} {ca sl : Nat} (hnd : q_nd σ = true) (hlv : ∀ ad : Nat → Nat, lv.map (q_cp (q_ad ad σ) (q_xd ad xd σ aw)) = lv.map (q_cp ad xd)) (hst : ∀ ad : Nat → Nat, st.map (q_cv (q_ad ad σ) (q_xd ad xd σ aw)) = st.map (q_cv ad xd))
    (h : q_lw aw σ σ 0 (fun w => ∀ xd' : Nat → Nat, (∀ e, e < 100 → xd' e = xd e) → q_W p l e R s m args below meth c D cy xd' A 0 ad0 nL Q pc lv st w ca sl)) : q_W p l e R s m args below meth c D cy xd A 0 ad0 nL Q pc lv st aw ca sl := by
  intro hca hsl ad ls H locs hn0 had hlv0 hP hD hS
  obtain ⟨w, h, hwl, hsub⟩ := q_lw_ok (cy := cy) (ad := ad) (xd := xd) σ 0 _ (fun t => by rw [Nat.zero_add]) h
  have := h (q_xd ad xd σ aw) (fun e he => by simp only [q_xd, if_pos he]) hca hsl (q_ad ad σ) ls H locs (Nat.zero_le _) (fun i hi => absurd hi (Nat.not_lt_zero i)) (by rw [hlv]; exact hlv0) (q_subP hP hwl hsub) (q_subD hD (q_nd_ok hnd) hwl hsub) hS
  rw [hst] at this
  exact this
theorem q_run_okG (hC : q_Cx p l s m args meth c R own cc D cy xd xv A E) {z : q_K} (hT : q_Th p l e R s m args below meth c D cy xd A 0 ad0 E Q z) (hr : q_Rt p l e R s m args below meth c cc D cy xd A 0 ad0 E Q z) {k0 : q_N} (hk0 : ∀ pc lv st aw ca sl, k0 pc lv st aw ca sl → q_W p l e R s m args below meth c D cy xd A 0 ad0 (q_nL E) Q pc lv st aw ca sl) :
    ∀ (n : Nat) (L : List q_I) (pc : Nat) (r : Instr × Nat × Int32 × Nat) (L' : List q_I) (lv : q_L) (st : List Value) (aw : List q_C) (ca sl : Nat), (∀ x ∈ L, x ∈ q_code E) → L = (pc, r) :: L' → q_run E k0 z n L lv st aw ca sl → q_W p l e R s m args below meth c D cy xd A 0 ad0 (q_nL E) Q pc lv st aw ca sl := by
  intro n
  induction n with
  | zero => intro L pc r L' lv st aw ca sl _ _ h; exact (h : False).elim
  | succ n ih =>
    intro L pc r L' lv st aw ca sl hL hLe h
    subst hLe
    obtain ⟨i, len, cn, t⟩ := r
    have hok : q_okI cc (pc, i, len, cn, t) = true := List.all_eq_true.mp hC.2.2.2.2.2.2.2.2.2.2.2.1 _ (hL _ List.mem_cons_self)
    have hk : ∀ pc' lv' st' aw' ca' sl', (match q_lk pc' (q_cuts E) with
        | some live => q_pk lv' live (fun lv'' => k0 pc' lv'' st' aw' ca' sl')
        | none => q_run E k0 z n (q_nx E pc' L') lv' st' aw' ca' sl') → q_W p l e R s m args below meth c D cy xd A 0 ad0 (q_nL E) Q pc' lv' st' aw' ca' sl' := by
      intro pc' lv' st' aw' ca' sl' h
      split at h
      · obtain ⟨l', h1, h2⟩ := q_pk_ok _ _ _ h
        exact q_weak h2 (hk0 _ _ _ _ _ _ h1)
      · cases hx : q_nx E pc' L' with
        | nil =>
          rw [hx] at h
          cases n with
          | zero => exact (h : False).elim
          | succ n => exact (h : False).elim
        | cons a L2 =>
          obtain ⟨pc2, r2⟩ := a
          have e1 := q_nx_hd hx
          subst e1
          exact ih _ _ r2 L2 lv' st' aw' ca' sl' (q_nx_mem (fun x hx => hL x (List.mem_cons_of_mem _ hx))) hx h
    exact q_step_ok hC hk (q_thr_ok hk hT) hr hok h
theorem q_go_okG (hC : q_Cx p l s m args meth c R own cc D cy xd xv A E) {z : q_K} (hT : q_Th p l e R s m args below meth c D cy xd A 0 ad0 E Q z) (hr : q_Rt p l e R s m args below meth c cc D cy xd A 0 ad0 E Q z) {k0 : q_N} (hk0 : ∀ pc lv st aw ca sl, k0 pc lv st aw ca sl → q_W p l e R s m args below meth c D cy xd A 0 ad0 (q_nL E) Q pc lv st aw ca sl) :
    ∀ pc lv st aw ca sl, q_go E k0 z pc lv st aw ca sl → q_W p l e R s m args below meth c D cy xd A 0 ad0 (q_nL E) Q pc lv st aw ca sl := by
  intro pc lv st aw ca sl h
  unfold q_go at h
  cases hx : q_sk pc (q_code E) with
  | nil => rw [hx] at h; exact (h : False).elim
  | cons a L2 =>
    obtain ⟨pc2, r2⟩ := a
    have e1 := q_sk_hd hx
    subst e1
    exact q_run_okG hC hT hr hk0 _ _ _ r2 L2 lv st aw ca sl (fun x hx => q_sk_mem x hx) hx h
end BLK

