theorem q_castR {args : Array Value} {s : State} {C : String} {k : ClassId} (h : s.vm.findClass C = some k) : (Cond.castable C C).before args s = true := by
  have ha : s.vm.assignable k k = true := by
    unfold Vm.assignable Vm.assignableAux
    simp
  show ((Cond.castable C C).holds args s none s []) = true
  simp only [Cond.holds, Cond.value, h, ha]
  rfl
section QH
variable {p : Program} {l : Launch} {e : Env} {R : Room} {s : State} {m : MethodId} {args : Array Value} {below : List Frame} {meth : Method} {c : Code} {own : String} {D : va_G} {cy : Nat → ClassId} {xd : Nat → Nat} {A : Nat → Prop} {n0 : Nat} {ad0 : Nat → Nat} {E : q_E}
theorem q_Th_ofH {K : q_K} {mc ms a b h ct : Nat} (hK : va_K D vwCl (q_tys cy) s) (hlk : meth.locks = false) (hown : s.vm.findClass own = some m.cls) (hx : c.exceptionTable.toList = tableOf [(a, b, h, ct)]) (hhs : q_hs E = [(a, b, h, 13)]) (hc0 : ct ≠ 0) (hlink : (Cond.classLink own ct RX13).before args s = true) (hRC : R.cells = mc) (hRS : R.slots = ms) :
    q_Th p l e R s m args below meth c D cy xd A n0 ad0 E (qx_MQ below (q_Qc D cy ad0 xd n0 K A) (q_XC D cy ad0 xd n0 K A) args s mc ms A) K := by
  refine ⟨fun pc p0 fs lv aw ca sl h0 hh hz hca hsl ad ls rest H locs hn0 had hlv hP hD hS => ?_, fun pc p0 h9 fs lv aw ca sl h0 hh hk hca hsl ad ls rest H locs hn0 had hlv hP hD hS => ?_⟩
  · obtain ⟨ce, c1, c2, c3⟩ := q_Stop hK hP h0
    refine qx_out (fun x hx9 => ?_) hlk c1 c2 c3 (fun t ht hvm => ⟨⟨rfl, p0, fs, aw, ad, rfl, h0, hz, had, by rw [ht]; exact hP, hD⟩, hS.F ht⟩) hS.2.2 (by rw [← hRC]; exact hca) (by rw [← hRS]; exact hsl)
    rw [hx] at hx9
    have e9 : x = ⟨a, b, h, ct⟩ := List.mem_singleton.mp hx9
    rw [e9]
    rw [hhs, q_hd] at hh
    split at hh
    · cases hh
    · next z =>
      simp only [covers]
      simp only [Bool.and_eq_false_iff] at z ⊢
      rcases z with z | z
      · left
        have : ¬ a ≤ pc := fun y => by rw [Nat.ble_eq_true_of_le y] at z; cases z
        simp [this]
      · right
        have : ¬ pc + 1 ≤ b := fun y => by rw [Nat.ble_eq_true_of_le y] at z; cases z
        simp; omega
  · obtain ⟨ce, c1, c2, c3⟩ := q_Stop hK hP h0
    rw [hhs, q_hd] at hh
    split at hh
    · next z =>
      cases hh
      simp only [Bool.and_eq_true] at z
      refine qx_catch (E := RX13) (name := RX13) (x := ⟨a, b, h, ct⟩) hown [] [] (by rw [hx]; rfl) (fun z hz => nomatch hz) ?_ hc0 hlink (q_castR c3) c1 c2 c3 (hk hca hsl ad ls H locs hn0 had hlv hP hD hS)
      have z1 := Nat.le_of_ble_eq_true z.1
      have z2 := Nat.le_of_ble_eq_true z.2
      simp [covers]
      omega
    · cases hh
end QH
/-- a contract out of a run, of a method that catches a Stop -/
theorem q_ct_ofH {l : Launch} {y : MethodName} {cc : ByteArray} {maxL : Nat} {ret : Option FieldType} {d mc ms : Nat} {sp : q_P} {h0 h1 h2 h3 : Nat} (E : q_E) (hy : plainName y.cls = true) (hE : q_Eok l y.cls cc E) (hnL : q_nL E = maxL) (hrt : q_rt E = ret) (hdp : q_dp E = d) (hRC : q_RC E = mc) (hRS : q_RS E = ms)
    (hct : ∀ x ∈ q_ct E, x = (44, 4, q_ROOM)) (hin : ∀ ci, q_in E = ci + 1 → y.name = "<init>" ∧ (vwCl[ci]?).map (fun q => q.1) = some y.cls) (hhs : q_hs E = [(h0, h1, h2, 13)]) (hc0 : h3 ≠ 0) (hlink : Cond.classLink y.cls h3 RX13 ∈ q_G)
    (body : ∀ (a : List Value) (w : List q_C) (K : q_K), sp a w K → q_cats a ≤ maxL ∧ ∀ C : q_N, (∀ pc lv st aw ca sl, q_go E C K pc lv st aw ca sl → C pc lv st aw ca sl) → C 0 (lv_args 0 a) [] w 0 0) :
    q_CT l y (.codeWith y cc maxL ret [(h0, h1, h2, h3)]) d mc ms sp := by
  intro D cy ad xd xv a w K sz hsp
  obtain ⟨hcat, body⟩ := body a w K hsp
  refine qx_ofWH (cc := cc) (maxL := maxL) (ret := ret) (hh := [(h0, h1, h2, h3)]) hy rfl ?_
  intro p e s m args below meth c s₁ B hml hv
  obtain ⟨rfl, hsz, hP, hK, hD0, hamb⟩ := hv
  have hts0 := atoms_spec (ws := Cond.codeWith y cc maxL ret [(h0, h1, h2, h3)] :: q_G) B.pre
  have hts : ∀ w ∈ q_G, w.before (a.map (q_cv ad xd)).toArray s = true := fun w hw => hts0 w (List.mem_cons_of_mem _ hw)
  have htab : c.exceptionTable.toList = tableOf [(h0, h1, h2, h3)] := qx_table (x := y) B (hts0 _ List.mem_cons_self)
  have hown : s.vm.findClass y.cls = some m.cls := findClass_of_methodNamed B.named
  subst hsz
  have hD := hD0.self (sz := s.heap.size)
  have hA : ∀ q : Nat, s.heap.size ≤ q → va_A (q_cw cy ad xd 0 w) s.heap.size q := fun q h => Or.inr h
  have hS : va_S (va_A (q_cw cy ad xd 0 w) s.heap.size) s.heap s.heap [] := va_S.rf
  have hcx : q_Cx p l s m (a.map (q_cv ad xd)).toArray meth c (q_rm d mc ms) y.cls cc D cy xd xv (va_A (q_cw cy ad xd 0 w) s.heap.size) E :=
    ⟨B.exec, B.bytes, hml.trans hnL.symm, hown, hts, hK, hA, fun x hx => by rw [hct x hx]; exact hamb.2.2.1, hamb, fun ci hci => ⟨(name_of_methodNamed B.named B.method).1.trans (hin ci hci).1, (hin ci hci).2⟩, ⟨by rw [hdp]; exact Nat.le_refl _, by rw [hdp]; exact Nat.le_refl _, hRC.symm, hRS.symm⟩, hE⟩
  have hgo := q_go_ok (e := e) (below := below) (n0 := w.length) (ad0 := ad) hcx (z := K) (Q := qx_MQ below (q_Qc D cy ad xd w.length K (va_A (q_cw cy ad xd 0 w) s.heap.size)) (q_XC D cy ad xd w.length K (va_A (q_cw cy ad xd 0 w) s.heap.size)) (a.map (q_cv ad xd)).toArray s mc ms (va_A (q_cw cy ad xd 0 w) s.heap.size)) (q_Th_ofH hK B.notSynchronized hown htab hhs hc0 (hts _ hlink) rfl rfl) (q_Rt_of B.exec B.bytes (B.returns.trans hrt.symm) B.notSynchronized rfl rfl)
  have h9 := body _ hgo (Nat.zero_le _) (Nat.zero_le _) ad
  have hlen : (lg_sl (a.map (q_cv ad xd))).length ≤ maxL := by rw [q_sl_len, q_cats_map]; exact hcat
  have hl := lv_entry (a.map (q_cv ad xd)) (n := maxL) hlen
  rw [lg_entry_eq]
  refine h9 _ s.heap [] (Nat.le_refl _) (fun _ _ => rfl) ?_ hP hD hS
  rw [hnL, ← q_args]
  exact hl

