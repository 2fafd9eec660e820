/-! ===== a contract out of a run ===== -/
theorem q_nil {α : Type} {P : α → Prop} : ∀ x ∈ ([] : List α), P x := fun _ h => nomatch h
theorem q_args {ad xd : Nat → Nat} : ∀ (a : List Value) (i : Nat), lv_args i (a.map (q_cv ad xd)) = (lv_args i a).map (q_cp ad xd)
  | [], i => rfl
  | v :: a, i => by
    rw [List.map_cons, lv_args, lv_args, List.map_cons, q_cv_cat, q_args a]
    rfl
theorem q_sl_len : ∀ (a : List Value), (lg_sl a).length = q_cats a
  | [] => rfl
  | v :: a => by
    have h := q_sl_len a
    unfold lg_sl at h ⊢
    rw [List.flatMap_cons, List.length_append, h, q_cats]
    rcases lv_cat v with z | z
    · rw [z]; rfl
    · rw [z]; rfl
theorem q_cats_map {ad xd : Nat → Nat} : ∀ (a : List Value), q_cats (a.map (q_cv ad xd)) = q_cats a
  | [] => rfl
  | v :: a => by rw [List.map_cons, q_cats, q_cats, q_cv_cat, q_cats_map a]
section QB
variable {p : Program} {l : Launch} {e : Env} {R : Room} {s : State} {m : MethodId} {args : Array Value} {below : List Frame} {meth : Method} {c : Code} {own : String} {cc : ByteArray} {D : va_G} {cy : Nat → ClassId} {xd xv : Nat → Nat} {A : Nat → Prop} {n0 : Nat} {ad0 : Nat → Nat} {E : q_E}
theorem q_Rt_of {K : q_K} {mc ms : Nat} (hx : p.tables.exec = Jvm.exec) (hb : c.code = cc) (hr : meth.sig.returnType = q_rt E) (hlk : meth.locks = false) (hRC : R.cells = mc) (hRS : R.slots = ms) :
    q_Rt p l e R s m args below meth c cc D cy xd A n0 ad0 E (qx_MQ below (q_Qc D cy ad0 xd n0 K A) (q_XC D cy ad0 xd n0 K A) args s mc ms A) K := by
  have fin : ∀ (r : Option Value) (pc : Nat) (lv : q_L) (st : List Value) (aw : List q_C) (ca sl : Nat), K (.inl r) aw →
      (∀ (ad : Nat → Nat) (ls : Array Slot) (H : Heap) (locs : List Loc), (∀ t : State, t.heap = H → s.WarmedH t.vm → q_Qc D cy ad0 xd n0 K A args s (.returned (r.map (q_cv ad xd))) t) → (∀ q ∈ locs, A q.base) → W p l e R s m args below meth c H locs mc ms (MQ below (q_Qc D cy ad0 xd n0 K A) args s mc ms A) (F0 m pc ls (st.map (q_cv ad xd)))) →
      q_W p l e R s m args below meth c D cy xd A n0 ad0 (q_nL E) (qx_MQ below (q_Qc D cy ad0 xd n0 K A) (q_XC D cy ad0 xd n0 K A) args s mc ms A) pc lv st aw ca sl := by
    intro r pc lv st aw ca sl hz hW hca hsl ad ls H locs hn0 had hlv hP hD hS
    refine W.widen (k := mc) (n := ms) (by rw [← hRC]; exact hca) (by rw [← hRS]; exact hsl) (qx_ret (hW ad ls H locs (fun t ht hWt => ?_) hS.2.2))
    exact ⟨⟨r, aw, ad, rfl, hz, had, by rw [ht]; exact hP, hD⟩, hS.F ht⟩
  refine ⟨fun pc lv x ty aw ca sl hd hrt hn hz => ?_, fun pc lv x aw ca sl hd hrt hz => ?_, fun pc lv x t aw ca sl hd hrt hz => ?_, fun pc lv aw ca sl hd hrt hz => ?_⟩
  · exact fin _ _ _ _ _ _ _ hz (fun ad ls H locs hq hf => W.zret hx hb (hr.trans hrt) hn hq hf hd)
  · exact fin _ _ _ _ _ _ _ hz (fun ad ls H locs hq hf => W.lret hx hb (hr.trans hrt) hq hf hd)
  · exact fin _ _ _ _ _ _ _ hz (fun ad ls H locs hq hf => W.aret hx hb (hr.trans hrt) (Or.inl ⟨t, rfl⟩) (Or.inr ⟨_, rfl⟩) hq hf hd)
  · exact fin _ _ _ _ _ _ _ hz (fun ad ls H locs hq hf => W.vret hx hb (hr.trans hrt) hq hf hd)
theorem q_Stop {H : Heap} {aw : List q_C} {ad : Nat → Nat} {p0 : Nat} {fs : List Value} (hK : va_K D vwCl (q_tys cy) s) (hP : va_P D vwCl (q_cw cy ad xd 0 aw) H) (h0 : aw[p0]? = some (.inr (13, fs))) : ∃ ce : Cell, H[ad p0]? = some ce ∧ ce.vm = .none ∧ s.vm.findClass RX13 = some ce.cls := by
  obtain ⟨r, h1, cell, q1, q2, q3, q4⟩ := hP p0 (ad p0, q_cE cy ad xd (.inr (13, fs))) (by rw [q_cw_get, h0, Nat.zero_add]; rfl)
  have hr : r = (RX13, TX13, 8) := Option.some.inj (h1.symm.trans rfl)
  subst hr
  obtain ⟨hS, hfc, -⟩ := hK.1 13 (RX13, TX13, 8) rfl
  exact ⟨cell, q1, q3, by rw [q2]; exact hfc⟩
/-- no handler here: what is thrown goes on -/
theorem q_Th_of {K : q_K} {mc ms : Nat} (hK : va_K D vwCl (q_tys cy) s) (hlk : meth.locks = false) (hno : ∀ x ∈ c.exceptionTable.toList, False) (hhs : q_hs E = []) (hRC : R.cells = mc) (hRS : R.slots = ms) :
    q_Th p l e R s m args below meth c D cy xd A n0 ad0 E (qx_MQ below (q_Qc D cy ad0 xd n0 K A) (q_XC D cy ad0 xd n0 K A) args s mc ms A) K := by
  refine ⟨fun pc p0 fs lv aw ca sl h0 hh hz hca hsl ad ls rest H locs hn0 had hlv hP hD hS => ?_, fun pc p0 h fs lv aw ca sl h0 hh => ?_⟩
  · obtain ⟨ce, c1, c2, c3⟩ := q_Stop hK hP h0
    exact qx_out (fun x hx => (hno x hx).elim) hlk c1 c2 c3 (fun t ht hvm => ⟨⟨rfl, p0, fs, aw, ad, rfl, h0, hz, had, by rw [ht]; exact hP, hD⟩, hS.F ht⟩) hS.2.2 (by rw [← hRC]; exact hca) (by rw [← hRS]; exact hsl)
  · rw [hhs] at hh
    cases hh
end QB
/-- THE WAY TO A CONTRACT: the run of the method's code, for every spec's continuation -/
theorem q_ct_of {l : Launch} {y : MethodName} {cc : ByteArray} {maxL : Nat} {ret : Option FieldType} {d mc ms : Nat} {sp : q_P} (E : q_E) (hy : plainName y.cls = true) (hE : q_Eok l y.cls cc E) (hnL : q_nL E = maxL) (hrt : q_rt E = ret) (hdp : q_dp E = d) (hRC : q_RC E = mc) (hRS : q_RS E = ms)
    (hct : ∀ x ∈ q_ct E, x = (44, 4, q_ROOM)) (hin : ∀ ci, q_in E = ci + 1 → y.name = "<init>" ∧ (vwCl[ci]?).map (fun q => q.1) = some y.cls) (hhs : q_hs E = [])
    (body : ∀ (a : List Value) (w : List q_C) (K : q_K), sp a w K → q_cats a ≤ maxL ∧ ∀ C : q_N, (∀ pc lv st aw ca sl, q_go E C K pc lv st aw ca sl → C pc lv st aw ca sl) → C 0 (lv_args 0 a) [] w 0 0) :
    q_CT l y (.code y cc maxL ret) d mc ms sp := by
  intro D cy ad xd xv a w K sz hsp
  obtain ⟨hcat, body⟩ := body a w K hsp
  refine qx_ofW (cc := cc) (maxL := maxL) (ret := ret) hy rfl ?_
  intro p e s m args below meth c s₁ B hml hno hv
  obtain ⟨rfl, hsz, hP, hK, hD0, hamb⟩ := hv
  have hts0 := atoms_spec (ws := Cond.code y cc maxL ret :: q_G) B.pre
  have hts : ∀ w ∈ q_G, w.before (a.map (q_cv ad xd)).toArray s = true := fun w hw => hts0 w (List.mem_cons_of_mem _ hw)
  have hown : s.vm.findClass y.cls = some m.cls := findClass_of_methodNamed B.named
  subst hsz
  have hD := hD0.self (sz := s.heap.size)
  have hA : ∀ q : Nat, s.heap.size ≤ q → va_A (q_cw cy ad xd 0 w) s.heap.size q := fun q h => Or.inr h
  have hS : va_S (va_A (q_cw cy ad xd 0 w) s.heap.size) s.heap s.heap [] := va_S.rf
  have hcx : q_Cx p l s m (a.map (q_cv ad xd)).toArray meth c (q_rm d mc ms) y.cls cc D cy xd xv (va_A (q_cw cy ad xd 0 w) s.heap.size) E :=
    ⟨B.exec, B.bytes, hml.trans hnL.symm, hown, hts, hK, hA, fun x hx => by rw [hct x hx]; exact hamb.2.2.1, hamb, fun ci hci => ⟨(name_of_methodNamed B.named B.method).1.trans (hin ci hci).1, (hin ci hci).2⟩, ⟨by rw [hdp]; exact Nat.le_refl _, by rw [hdp]; exact Nat.le_refl _, hRC.symm, hRS.symm⟩, hE⟩
  have hgo := q_go_ok (e := e) (below := below) (n0 := w.length) (ad0 := ad) hcx (z := K) (Q := qx_MQ below (q_Qc D cy ad xd w.length K (va_A (q_cw cy ad xd 0 w) s.heap.size)) (q_XC D cy ad xd w.length K (va_A (q_cw cy ad xd 0 w) s.heap.size)) (a.map (q_cv ad xd)).toArray s mc ms (va_A (q_cw cy ad xd 0 w) s.heap.size)) (q_Th_of hK B.notSynchronized hno hhs rfl rfl) (q_Rt_of B.exec B.bytes (B.returns.trans hrt.symm) B.notSynchronized rfl rfl)
  have h9 := body _ hgo (Nat.zero_le _) (Nat.zero_le _) ad
  have hlen : (lg_sl (a.map (q_cv ad xd))).length ≤ maxL := by rw [q_sl_len, q_cats_map]; exact hcat
  have hl := lv_entry (a.map (q_cv ad xd)) (n := maxL) hlen
  rw [lg_entry_eq]
  refine h9 _ s.heap [] (Nat.le_refl _) (fun _ _ => rfl) ?_ hP hD hS
  rw [hnL, ← q_args]
  exact hl
