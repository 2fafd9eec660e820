theorem q_g8_ok {rc : Nat} {args : List Value} {k : Prop} (h : q_g8 rc args k) : q_r8 rc args = true ∧ k := by
  unfold q_g8 at h
  split at h
  · split at h
    · next h8 => exact ⟨h8, h⟩
    · exact h.elim
  · next hb =>
    split at h
    · exact ⟨by unfold q_r8; rw [hb]; exact Nat.ble_eq_true_of_le h.1, h.2⟩
    · exact h.elim
/-! ===== a call, as the abstract machine has it, is sound ===== -/
section QK
variable {p : Program} {l : Launch} {e : Env} {R : Room} {s : State} {m : MethodId} {args : Array Value} {below : List Frame} {meth : Method} {c : Code} {own : String} {cc : ByteArray} {D : va_G} {cy : Nat → ClassId} {xd xv : Nat → Nat} {A : Nat → Prop} {n0 : Nat} {ad0 : Nat → Nat} {Q : State → Prop} {E : q_E}
theorem q_after {H : Heap} {locs : List Loc} {ca sl mc ms pc n : Nat} {ls : Array Slot} {stC restC : List Value} {ad' xd' : Nat → Nat} {K : q_K} {A1 : Nat → Prop} {arr : Array Value}
    (hr : qx_Run p l e R s m args below meth c H locs ca sl mc ms (F0 m pc ls stC) restC (q_Qc D cy ad' xd' n K A1 arr) (q_XC D cy ad' xd' n K A1) A1) (hS : va_S A s.heap H locs) (hA : ∀ q, A1 q → A q)
    (kr : ∀ (r : Option Value) (w' : List q_C) (ad1 : Nat → Nat) (H1 : Heap) (locs1 : List Loc), K (.inl r) w' → (∀ i, i < n → ad1 i = ad' i) → va_P D vwCl (q_cw cy ad1 xd' 0 w') H1 → va_D A1 (q_cw cy ad1 xd' 0 w') → (∀ q : Nat, q < H.size → ¬ A1 q → H1[q]? = H[q]?) → va_S A s.heap H1 locs1 →
      W p l e R s m args below meth c H1 locs1 (ca + mc) (sl + ms) Q (F0 m (pc + 3) ls ((r.map (q_cv ad1 xd')).toList ++ restC)))
    (kt : ∀ (p0 : Nat) (fs : List Value) (w' : List q_C) (ad1 : Nat → Nat) (H1 : Heap) (locs1 : List Loc), w'[p0]? = some (.inr (13, fs)) → K (.inr (.ref p0)) w' → (∀ i, i < n → ad1 i = ad' i) → va_P D vwCl (q_cw cy ad1 xd' 0 w') H1 → va_D A1 (q_cw cy ad1 xd' 0 w') → (∀ q : Nat, q < H.size → ¬ A1 q → H1[q]? = H[q]?) → va_S A s.heap H1 locs1 →
      qx_W p l e R s m args below meth c H1 locs1 (ca + mc) (sl + ms) Q (F0 m pc ls restC) (ad1 p0)) :
    W p l e R s m args below meth c H locs ca sl Q (F0 m pc ls stC) := by
  intro T hT X
  rcases hr T hT X with ⟨v, st₀, t, T', L, h0, X', hL, e1, e2, ⟨⟨r, w', ad1, hv, hK, ha, hP, hD⟩, hF⟩, st⟩ | ⟨q, st₀, t, T', L, E9, ce, h0, X', hL, e1, e2, ⟨⟨-, p0, fs, w', ad1, rfl, hfs, hK, ha, hP, hD⟩, hF⟩, hce, hcv, hcl, st⟩
  · cases hv
    obtain ⟨k1, k2, k3⟩ := qx_keep h0 e1 hS (fun q _ h => hA q h) hA hL hF
    rw [← e1] at hP
    obtain ⟨t2, a1, b1⟩ := kr r w' ad1 T'.heap (locs ++ L) hK ha hP hD k2 k3 T' rfl X'
    exact ⟨t2, st t2 a1, b1⟩
  · obtain ⟨k1, k2, k3⟩ := qx_keep h0 e1 hS (fun q _ h => hA q h) hA hL hF
    rw [← e1] at hP
    obtain ⟨t2, a1, b1⟩ := kt p0 fs w' ad1 T'.heap (locs ++ L) hfs hK ha hP hD k2 k3 T' rfl X'
    exact ⟨t2, st.trans a1, b1⟩
set_option maxHeartbeats 4000000 in
theorem q_call_ok (hC : q_Cx p l s m args meth c R own cc D cy xd xv A E) {k : q_N} {z : q_K}
    (hk : ∀ pc lv st aw ca sl, k pc lv st aw ca sl → q_W p l e R s m args below meth c D cy xd A n0 ad0 (q_nL E) Q pc lv st aw ca sl)
    (ht : ∀ pc v lv aw ca sl, q_thr E pc v lv aw ca sl k z → ∃ p0, v = .ref p0 ∧ q_X p l e R s m args below meth c D cy xd A n0 ad0 (q_nL E) Q pc p0 lv aw ca sl)
    {pc n rc d mL mc ms : Nat} {fd : List (Nat ⊕ (Nat × Nat))} {sp : q_P} {kd : Nat → Bool} (hRH : d + 1 ≤ q_dp E → mL ≤ 45 → kd rc = true → q_RH p l e R s m args below meth c D cy xd xv A (q_nL E) pc n rc mc ms sp)
    {lv : q_L} {st : List Value} {aw : List q_C} {ca sl : Nat} (h : q_call E kd (n, rc, d, mL, mc, ms, fd, sp) pc lv st aw ca sl k z) : q_W p l e R s m args below meth c D cy xd A n0 ad0 (q_nL E) Q pc lv st aw ca sl := by
  have hcx := hC
  obtain ⟨hx, hb, hml, hown, hts, hK, hA, hct, hamb, hin, ⟨hR1, hR2, hRC, hRS⟩, hEok⟩ := hC
  intro hca hsl ad ls H locs hn0 had hlv hP hD hS
  unfold q_call at h
  dsimp only at h
  split at h
  · exact h.elim
  · next hb1 =>
    simp only [Bool.and_eq_true] at hb1
    obtain ⟨as0, rest, rfl, hlen, h5⟩ := q_pop_ok _ _ _ _ h
    rw [List.append_nil] at h5
    split at h5
    · exact h5.elim
    · next hb2 =>
      simp only [Bool.and_eq_true] at hb2
      have h8 := (q_g8_ok h5).1
      replace h5 := (q_g8_ok h5).2
      have RH := hRH (Nat.le_of_ble_eq_true hb1.1) (Nat.le_of_ble_eq_true hb1.2.1) hb1.2.2
      have hcat : q_cats rest ≤ 8 := Nat.le_of_ble_eq_true hb2.1
      -- common part: a footprint, its cells, and a continuation
      have core : ∀ (grow : Prop) (ns : List Nat), (ca + mc ≤ R.cells ∧ sl + ms ≤ R.slots) → (¬ grow → ns = []) → (grow → ns = q_dl q_ns aw ∧ q_vl (q_ln aw) lv = true ∧ q_vs (q_ln aw) rest = true ∧ q_vw (q_ln aw) aw = true) →
          (q_ft as0 aw fd [] (fun σ => match q_nd σ with
            | false => False
            | true => q_lw aw σ σ 0 (fun w => q_la σ as0 (fun as => sp as w (fun o w' => q_ext w' σ ns (fun σ' => q_gw σ' σ aw w' σ' aw (fun aw' => match o with
              | .inl none => k (pc + 3) lv rest aw' (ca + mc) (sl + ms)
              | .inl (some v) => q_gval σ' σ aw v (fun v' => k (pc + 3) lv (v' :: rest) aw' (ca + mc) (sl + ms))
              | .inr v => q_gval σ' σ aw v (fun v' => q_thr E pc v' lv aw' (ca + mc) (sl + ms) k z)))))))) →
          W p l e R s m args below meth c H locs ca sl Q (F0 m pc ls ((as0.reverse ++ rest).map (q_cv ad xd))) := by
        intro grow ns hroom hng hgr h
        obtain ⟨σ, h⟩ := q_ft_ok h
        split at h
        · exact h.elim
        · next hnd =>
          obtain ⟨w, h, hwl, hsub⟩ := q_lw_ok (cy := cy) (ad := ad) (xd := xd) σ 0 _ (fun t => by rw [Nat.zero_add]) h
          obtain ⟨as, h, has⟩ := q_la_ok (ad := ad) (xd := xd) (aw := aw) as0 _ h
          have hinj := q_nd_ok hnd
          have hPs := q_subP hP hwl hsub
          have hDs := q_subD hD hinj hwl hsub
          have hAs := q_subA hDs hS hA
          have hσlt : ∀ (t q : Nat), σ[t]? = some q → q < aw.length := fun t q hq => by
            obtain ⟨c1, -, h1, -⟩ := hsub t q hq
            exact (List.getElem?_eq_some_iff.mp h1).1
          have hPc : ∀ U : State, U.heap = H → s.WarmedH U.vm → q_Pc D cy (q_ad ad σ) (q_xd ad xd σ aw) xv as w H.size ((as0.map (q_cv ad xd)).toArray) U := by
            intro U hU hW
            refine ⟨by rw [has], by rw [hU], by rw [hU]; exact hPs, hK.moved hW.alike, hDs.weaken (fun _ _ _ _ => trivial), ?_⟩
            exact (hamb.move hW (fun a h1 h2 => by rw [hU]; exact hS.2.1 a h1 h2) hAs).xd (fun e he => by simp only [q_xd, if_pos he])
          have run := RH ad ls H locs ca sl aw as0 rest as (q_ad ad σ) (q_xd ad xd σ aw) w _ hlv.1 hlen has hb2.2 h8 hcat hroom.1 hroom.2 hP hS hPc h
          -- what comes back
          have back : ∀ (w' : List q_C) (ad1 : Nat → Nat) (H1 : Heap) (KK : List Nat → List q_C → Prop), q_ext w' σ ns (fun σ' => q_gw σ' σ aw w' σ' aw (fun aw' => KK σ' aw')) → (∀ i, i < w.length → ad1 i = q_ad ad σ i) → va_P D vwCl (q_cw cy ad1 (q_xd ad xd σ aw) 0 w') H1 → va_D (va_A (q_cw cy (q_ad ad σ) (q_xd ad xd σ aw) 0 w) H.size) (q_cw cy ad1 (q_xd ad xd σ aw) 0 w') → (∀ q : Nat, q < H.size → ¬ va_A (q_cw cy (q_ad ad σ) (q_xd ad xd σ aw) 0 w) H.size q → H1[q]? = H[q]?) →
              ∃ (τ : List Nat) (aw' : List q_C) (ad2 : Nat → Nat), KK τ aw' ∧ aw.length ≤ aw'.length ∧ (∀ p, p < aw.length → ad2 p = ad p) ∧ (∀ (n p : Nat), τ[n]? = some p → ad2 p = ad1 n) ∧ (∀ e v0, q_og σ aw e = some v0 → q_cv ad2 xd v0 = q_cv ad xd v0) ∧ va_P D vwCl (q_cw cy ad2 xd 0 aw') H1 ∧ va_D A (q_cw cy ad2 xd 0 aw') ∧ lv.map (q_cp ad2 xd) = lv.map (q_cp ad xd) ∧ rest.map (q_cv ad2 xd) = rest.map (q_cv ad xd) := by
            intro w' ad1 H1 KK hx9 ha1 hP1 hD1 hfr
            obtain ⟨ex, hg, hwl', hexs⟩ := q_ext_ok w' σ ns _ hx9
            have hτσ : ∀ (n p : Nat), σ[n]? = some p → (σ ++ ex)[n]? = some p := fun n p hn => by
              rw [List.getElem?_append_left (List.getElem?_eq_some_iff.mp hn).1]; exact hn
            have hτl : w'.length = (σ ++ ex).length := by rw [List.length_append]; exact hwl'
            have had1 : ∀ (n p : Nat), σ[n]? = some p → ad1 n = ad p := fun n p hn => by
              rw [ha1 n (by rw [hwl]; exact (List.getElem?_eq_some_iff.mp hn).1), q_ad_at hn]
            by_cases hG : grow
            · obtain ⟨hns, v1, v2, v3⟩ := hgr hG
              rw [q_ln_eq] at v1 v2 v3
              have hexv : ∀ (j p : Nat), ex[j]? = some p → p = aw.length + j := by
                intro j p hj
                have hjl : j < ex.length := (List.getElem?_eq_some_iff.mp hj).1
                rw [hexs j hjl, hns, q_dl_ok, List.getElem?_drop] at hj
                exact q_ns_at hj
              let ad2 : Nat → Nat := fun i => if i < aw.length then ad i else ad1 (σ.length + (i - aw.length))
              have P1 : ∀ p, p < aw.length → ad2 p = ad p := fun p hp => if_pos hp
              have P2 : ∀ (n p : Nat), (σ ++ ex)[n]? = some p → ad2 p = ad1 n := by
                intro n p hn
                rcases Nat.lt_or_ge n σ.length with hl | hl
                · rw [List.getElem?_append_left hl] at hn
                  rw [P1 p (hσlt n p hn), had1 n p hn]
                · rw [List.getElem?_append_right hl] at hn
                  have e1 := hexv _ p hn
                  have e2 : ¬ p < aw.length := by omega
                  show (if p < aw.length then ad p else ad1 (σ.length + (p - aw.length))) = ad1 n
                  rw [if_neg e2]
                  congr 1
                  omega
              have P3 : ∀ e v0, q_og σ aw e = some v0 → q_cv ad2 xd v0 = q_cv ad xd v0 := by
                intro e v0 he
                unfold q_og at he
                split at he
                · split at he
                  · next ci fs hat =>
                    rw [q_at_eq] at hat he
                    exact q_v_ok P1 (q_vs_at (q_vw_at v3 _ ci fs hat) _ v0 he)
                  · cases he
                · cases he
              have hinjτ : ∀ (i j p : Nat), (σ ++ ex)[i]? = some p → (σ ++ ex)[j]? = some p → i = j := by
                intro i j p hi hj
                rcases Nat.lt_or_ge i σ.length with hli | hli <;> rcases Nat.lt_or_ge j σ.length with hlj | hlj
                · rw [List.getElem?_append_left hli] at hi
                  rw [List.getElem?_append_left hlj] at hj
                  exact hinj i j p hi hj
                · rw [List.getElem?_append_left hli] at hi
                  rw [List.getElem?_append_right hlj] at hj
                  have h1 := hσlt i p hi
                  have h2 := hexv _ p hj
                  omega
                · rw [List.getElem?_append_right hli] at hi
                  rw [List.getElem?_append_left hlj] at hj
                  have h1 := hσlt j p hj
                  have h2 := hexv _ p hi
                  omega
                · rw [List.getElem?_append_right hli] at hi
                  rw [List.getElem?_append_right hlj] at hj
                  have h1 := hexv _ p hi
                  have h2 := hexv _ p hj
                  omega
              obtain ⟨aw', g1, g2, g3, g4⟩ := q_gw_ok (cy := cy) (ad := ad) (xd := xd) (ad1 := ad1) (ad2 := ad2) P2 P3 w' (σ ++ ex) aw _ hinjτ hg
              obtain ⟨r1, r2⟩ := q_reb (τ := σ ++ ex) (ad2 := ad2) (aw' := aw') hP hD hwl hsub hAs ha1 hP1 hD1 hfr hτl (by omega) hτσ (fun n p hn => by
                rcases Nat.lt_or_ge n σ.length with hl | hl
                · exact Or.inl hl
                · rw [List.getElem?_append_right hl] at hn
                  have e1 := hexv _ p hn
                  exact Or.inr (by omega)) P1 P2 (fun k c hc => q_vw_ok P1 v3 k c hc) g3 g4
              exact ⟨σ ++ ex, aw', ad2, g1, g2, P1, P2, P3, r1, r2, q_vl_ok P1 v1, q_vs_ok P1 v2⟩
            · have hns := hng hG
              have hex0 : ex = [] := by
                cases ex with
                | nil => rfl
                | cons a ex =>
                  have := hexs 0 (by simp)
                  rw [hns] at this
                  simp at this
              subst hex0
              rw [List.append_nil] at hg hτσ hτl
              have P2 : ∀ (n p : Nat), σ[n]? = some p → ad p = ad1 n := fun n p hn => (had1 n p hn).symm
              obtain ⟨aw', g1, g2, g3, g4⟩ := q_gw_ok (cy := cy) (ad := ad) (xd := xd) (ad1 := ad1) (ad2 := ad) P2 (fun _ _ _ => rfl) w' σ aw _ hinj hg
              obtain ⟨r1, r2⟩ := q_reb (τ := σ) (ad2 := ad) (aw' := aw') hP hD hwl hsub hAs ha1 hP1 hD1 hfr hτl (by omega) hτσ (fun n p hn => Or.inl (List.getElem?_eq_some_iff.mp hn).1) (fun _ _ => rfl) P2 (fun _ _ _ => rfl) g3 g4
              exact ⟨σ, aw', ad, g1, g2, fun _ _ => rfl, P2, fun _ _ _ => rfl, r1, r2, rfl, rfl⟩
          refine q_after run hS hAs ?_ ?_
          · intro r w' ad1 H1 locs1 hKK ha1 hP1 hD1 hfr hS1
            obtain ⟨τ, aw', ad2, hM, hlen', P1, P2, P3, r1, r2, e1, e2⟩ := back w' ad1 H1 _ hKK ha1 hP1 hD1 hfr
            cases r with
            | none =>
              have := hk _ _ _ _ _ _ hM hroom.1 hroom.2 ad2 ls H1 locs1 (Nat.le_trans hn0 hlen') (fun i hi => by rw [P1 i (by omega)]; exact had i hi) (by rw [e1]; exact hlv) r1 r2 hS1
              rw [e2] at this
              exact this
            | some v =>
              obtain ⟨v', hM, hv'⟩ := q_gval_ok P2 P3 hM
              have := hk _ _ _ _ _ _ hM hroom.1 hroom.2 ad2 ls H1 locs1 (Nat.le_trans hn0 hlen') (fun i hi => by rw [P1 i (by omega)]; exact had i hi) (by rw [e1]; exact hlv) r1 r2 hS1
              rw [List.map_cons, e2, hv'] at this
              exact this
          · intro p0 fs w' ad1 H1 locs1 hfs hKK ha1 hP1 hD1 hfr hS1
            obtain ⟨τ, aw', ad2, hM, hlen', P1, P2, P3, r1, r2, e1, e2⟩ := back w' ad1 H1 _ hKK ha1 hP1 hD1 hfr
            obtain ⟨v', hM, hv'⟩ := q_gval_ok P2 P3 hM
            obtain ⟨p1, rfl, hX⟩ := ht _ _ _ _ _ _ hM
            have := hX hroom.1 hroom.2 ad2 ls (rest.map (q_cv ad xd)) H1 locs1 (Nat.le_trans hn0 hlen') (fun i hi => by rw [P1 i (by omega)]; exact had i hi) (by rw [e1]; exact hlv) r1 r2 hS1
            have e3 : ad2 p1 = ad1 p0 := by
              simp only [q_cv] at hv'
              exact Value.ref.inj hv'
            rw [e3] at this
            exact this
      split at h5
      · next hz0 =>
        have e1 : mc = 0 := by omega
        have e2 : ms = 0 := by omega
        subst e1; subst e2
        exact core False [] ⟨hca, hsl⟩ (fun _ => rfl) (fun f => f.elim) h5
      · obtain ⟨hrm, h5⟩ := h5
        split at h5
        · exact h5.elim
        · next hv =>
          simp only [Bool.and_eq_true] at hv
          rw [← hRC, ← hRS] at hrm
          exact core True (q_dl q_ns aw) hrm (fun f => absurd trivial f) (fun _ => ⟨rfl, hv.1, hv.2.1, hv.2.2⟩) h5
end QK
