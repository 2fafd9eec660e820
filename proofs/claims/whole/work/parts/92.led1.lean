/-! ===== a method that throws NoSuchElementException ===== -/
def nse : String := "java/util/NoSuchElementException"
def nseN : List String := ["java/lang/RuntimeException", "java/lang/Exception"]
def nseB : List Cond := [.declares (Bundle.initS "java/lang/RuntimeException"), .declares (Bundle.initS "java/lang/Exception"), .declares (Bundle.initS Bundle.tN), .castable nse nse]
theorem nse_bad : ((qx_atX RX11 326 nse 13 prog_25_method_4_code nseN).filter (fun w => !goodWord w)) = nseB := by decide +kernel
theorem decl_of {args : Array Value} {s : State} {x : MethodName} {bytes : ByteArray} {mL : Nat} {ret : Option FieldType} (h1 : (Cond.instanceMethod x).before args s = true) (h2 : (Cond.code x bytes mL ret).before args s = true) : (Cond.declares x).before args s = true := by
  obtain ⟨m, meth, hn, hm, hst, -⟩ := Cond.instanceMethod_spec h1
  obtain ⟨meth', c, hm', -, -, -, -, -, -, hsig⟩ := Cond.code_spec hn h2
  cases Option.some.inj (hm.symm.trans hm')
  simp [Cond.before, Cond.holds, Cond.value, hn, hm, hst, hsig]
theorem nse_in : (((qx_atX RX11 326 nse 13 prog_25_method_4_code nseN).filter goodWord).all (fun w => decide (w ∈ tables_1))) = true := by decide +kernel
theorem nse_ot : ((Cond.classLink RX11 322 nse :: Cond.initialized nse :: qx_atX RX11 326 nse 13 prog_25_method_4_code nseN).all qx_ot) = true := by decide +kernel
def qzK (K : q_K) : q_K := fun o w => match o with
  | .inl r => K (.inl r) w
  | .inr _ => False
def q_XL (D : va_G) (cy : Nat → ClassId) (ad xd : Nat → Nat) (n : Nat) (K : q_K) (A : Nat → Prop) : String → Addr → State → State → Prop := fun E _ st t =>
  (E = nse ∧ ∃ (w' : List q_C) (ad' : Nat → Nat), K (.inr .null) w' ∧ q_End D cy ad xd n A w' ad' t) ∧ va_F A st t
def q_CTX (l : Launch) (y : MethodName) (w0 : Cond) (d mc ms : Nat) (sp : q_P) : Prop :=
  ∀ (D : va_G) (cy : Nat → ClassId) (ad xd xv : Nat → Nat) (a : List Value) (w : List q_C) (K : q_K) (sz : Nat), sp a w K →
    qx_Met l y (w0 :: q_G) (q_rm d mc ms) (q_Pc D cy ad xd xv a w sz) (q_Qc D cy ad xd w.length K (va_A (q_cw cy ad xd 0 w) sz)) (q_XL D cy ad xd w.length K (va_A (q_cw cy ad xd 0 w) sz)) mc ms (va_A (q_cw cy ad xd 0 w) sz)
def ledR (cc : ByteArray) (K : q_K) (mc ms : Nat) (C : q_N) : Prop := ∀ (pc is t : Nat) (x : String × Nat × String × List Int32) (lv : q_L) (aw : List q_C) (ca sl : Nat), decode cc pc = .ok (.new 322, 3) → decode cc (pc + 3) = .ok (.dup, 1) → decode cc (pc + 4) = .ok (.ldc_w is, 3) → decode cc (pc + 7) = .ok (.invokespecial 326, 3) → decode cc (pc + 10) = .ok (.athrow, 1) → q_str[t]? = some x → x.1 = RX11 → x.2.1 = is → ca + 1 ≤ mc → sl + 6 ≤ ms → K (.inr .null) aw → C pc lv [] aw ca sl
section QXL
variable {p : Program} {l : Launch} {e : Env} {R : Room} {s : State} {m : MethodId} {args : Array Value} {below : List Frame} {meth : Method} {c : Code} {own : String} {cc : ByteArray} {D : va_G} {cy : Nat → ClassId} {xd xv : Nat → Nat} {A : Nat → Prop} {n0 : Nat} {ad0 : Nat → Nat} {E : q_E}
theorem q_Rt_ofX {K : q_K} {XC : String → Addr → State → State → Prop} {mc ms : Nat} (hx : p.tables.exec = Jvm.exec) (hb : c.code = cc) (hr : meth.sig.returnType = q_rt E) (hlk : meth.locks = false) (hRC : R.cells = mc) (hRS : R.slots = ms) :
    q_Rt p l e R s m args below meth c cc D cy xd A n0 ad0 E (qx_MQ below (q_Qc D cy ad0 xd n0 K A) XC args s mc ms A) (qzK K) := by
  have fin : ∀ (r : Option Value) (pc : Nat) (lv : q_L) (st : List Value) (aw : List q_C) (ca sl : Nat), K (.inl r) aw →
      (∀ (ad : Nat → Nat) (ls : Array Slot) (H : Heap) (locs : List Loc), (∀ t : State, t.heap = H → s.WarmedH t.vm → q_Qc D cy ad0 xd n0 K A args s (.returned (r.map (q_cv ad xd))) t) → (∀ q ∈ locs, A q.base) → W p l e R s m args below meth c H locs mc ms (MQ below (q_Qc D cy ad0 xd n0 K A) args s mc ms A) (F0 m pc ls (st.map (q_cv ad xd)))) →
      q_W p l e R s m args below meth c D cy xd A n0 ad0 (q_nL E) (qx_MQ below (q_Qc D cy ad0 xd n0 K A) XC args s mc ms A) pc lv st aw ca sl := by
    intro r pc lv st aw ca sl hz hW hca hsl ad ls H locs hn0 had hlv hP hD hS
    refine W.widen (k := mc) (n := ms) (by rw [← hRC]; exact hca) (by rw [← hRS]; exact hsl) (qx_ret (hW ad ls H locs (fun t ht hWt => ?_) hS.2.2))
    exact ⟨⟨r, aw, ad, rfl, hz, had, by rw [ht]; exact hP, hD⟩, hS.F ht⟩
  refine ⟨fun pc lv x ty aw ca sl hd hrt hn hz => ?_, fun pc lv x aw ca sl hd hrt hz => ?_, fun pc lv x t aw ca sl hd hrt hz => ?_, fun pc lv aw ca sl hd hrt hz => ?_⟩
  · exact fin _ _ _ _ _ _ _ hz (fun ad ls H locs hq hf => W.zret hx hb (hr.trans hrt) hn hq hf hd)
  · exact fin _ _ _ _ _ _ _ hz (fun ad ls H locs hq hf => W.lret hx hb (hr.trans hrt) hq hf hd)
  · exact fin _ _ _ _ _ _ _ hz (fun ad ls H locs hq hf => W.aret hx hb (hr.trans hrt) (Or.inl ⟨t, rfl⟩) (Or.inr ⟨_, rfl⟩) hq hf hd)
  · exact fin _ _ _ _ _ _ _ hz (fun ad ls H locs hq hf => W.vret hx hb (hr.trans hrt) hq hf hd)
theorem q_Th_no {K : q_K} {Q : State → Prop} (hhs : q_hs E = []) : q_Th p l e R s m args below meth c D cy xd A n0 ad0 E Q (qzK K) :=
  ⟨fun pc p0 fs lv aw ca sl _ _ hz => (hz : False).elim, fun pc p0 h fs lv aw ca sl _ hh => by rw [hhs] at hh; cases hh⟩
end QXL
theorem q_ct_ofX {l : Launch} (hl : l.stackTraces = false) {y : MethodName} {cc : ByteArray} {maxL : Nat} {ret : Option FieldType} {d mc ms : Nat} {sp : q_P} (hd6 : 6 ≤ d) (hyc : y.cls = RX11) (E : q_E) (hy : plainName y.cls = true) (hE : q_Eok l y.cls cc E) (hnL : q_nL E = maxL) (hrt : q_rt E = ret) (hdp : q_dp E = d) (hRC : q_RC E = mc) (hRS : q_RS E = ms)
    (hct : ∀ x ∈ q_ct E, x = (44, 4, q_ROOM)) (hin : ∀ ci, q_in E = ci + 1 → y.name = "<init>" ∧ (vwCl[ci]?).map (fun q => q.1) = some y.cls) (hhs : q_hs E = [])
    (body : ∀ (a : List Value) (w : List q_C) (K : q_K), sp a w K → q_cats a ≤ maxL ∧ ∀ C : q_N, (∀ pc lv st aw ca sl, q_go E C (qzK K) pc lv st aw ca sl → C pc lv st aw ca sl) → ledR cc K mc ms C → C 0 (lv_args 0 a) [] w 0 0) :
    q_CTX l y (.code y cc maxL ret) d mc ms sp := by
  intro D cy ad xd xv a w K sz hsp
  obtain ⟨hcat, body⟩ := body a w K hsp
  refine qx_ofW (cc := cc) (maxL := maxL) (ret := ret) hy rfl ?_
  intro p e s m args below meth c s₁ B hml hno hv
  obtain ⟨rfl, hsz, hP, hK, hD0, hamb⟩ := hv
  have hts0 := atoms_spec (ws := Cond.code y cc maxL ret :: q_G) B.pre
  have hts : ∀ w ∈ q_G, w.before (a.map (q_cv ad xd)).toArray s = true := fun w hw => hts0 w (List.mem_cons_of_mem _ hw)
  have hown : s.vm.findClass y.cls = some m.cls := findClass_of_methodNamed B.named
  subst hsz
  have hD := hD0.self (sz := s.heap.size)
  have hA : ∀ q : Nat, s.heap.size ≤ q → va_A (q_cw cy ad xd 0 w) s.heap.size q := fun q h => Or.inr h
  have hS : va_S (va_A (q_cw cy ad xd 0 w) s.heap.size) s.heap s.heap [] := va_S.rf
  have hcx : q_Cx p l s m (a.map (q_cv ad xd)).toArray meth c (q_rm d mc ms) y.cls cc D cy xd xv (va_A (q_cw cy ad xd 0 w) s.heap.size) E :=
    ⟨B.exec, B.bytes, hml.trans hnL.symm, hown, hts, hK, hA, fun x hx => by rw [hct x hx]; exact hamb.2.2.1, hamb, fun ci hci => ⟨(name_of_methodNamed B.named B.method).1.trans (hin ci hci).1, (hin ci hci).2⟩, ⟨by rw [hdp]; exact Nat.le_refl _, by rw [hdp]; exact Nat.le_refl _, hRC.symm, hRS.symm⟩, hE⟩
  have hgo := q_go_ok (e := e) (below := below) (n0 := w.length) (ad0 := ad) hcx (z := qzK K) (Q := qx_MQ below (q_Qc D cy ad xd w.length K (va_A (q_cw cy ad xd 0 w) s.heap.size)) (q_XL D cy ad xd w.length K (va_A (q_cw cy ad xd 0 w) s.heap.size)) (a.map (q_cv ad xd)).toArray s mc ms (va_A (q_cw cy ad xd 0 w) s.heap.size)) (q_Th_no hhs) (q_Rt_ofX B.exec B.bytes (B.returns.trans hrt.symm) B.notSynchronized rfl rfl)
  have hini : (Cond.initialized nse).before (a.map (q_cv ad xd)).toArray s = true := hts _ (q_G_i 25 (by decide +kernel) rfl)
  have hins : (Cond.instantiable nse 6).before (a.map (q_cv ad xd)).toArray s = true := hts _ (q_G_i 1169 (by decide +kernel) rfl)
  obtain ⟨kN, hkN⟩ : ∃ k, s.vm.findClass nse = some k := by
    obtain ⟨k, -, hk, -⟩ := Cond.instantiable_spec hins
    exact ⟨k, hk⟩
  have hat : ∀ w' ∈ qx_atX RX11 326 nse 13 prog_25_method_4_code nseN, w'.before (a.map (q_cv ad xd)).toArray s = true := qx_hat (B := nseB) (fun w' hw => by
      have h1 := List.all_eq_true.mp nse_in w' hw
      exact hts _ (q_G_mem (List.mem_append_right _ (of_decide_eq_true h1)) (List.mem_filter.mp hw).2)) (fun w' hw => by rw [nse_bad] at hw; exact hw) (qx_c (decl_of (bytes := prog_20_method_2_code) (mL := 2) (ret := none) (hts _ (q_G_i 1213 (by decide +kernel) rfl)) (hts _ (q_G_i 1214 (by decide +kernel) rfl))) (qx_c (decl_of (bytes := prog_17_method_2_code) (mL := 2) (ret := none) (hts _ (q_G_i 1216 (by decide +kernel) rfl)) (hts _ (q_G_i 1217 (by decide +kernel) rfl))) (qx_c (decl_of (bytes := prog_24_method_2_code) (mL := 2) (ret := none) (hts _ (q_G_i 1219 (by decide +kernel) rfl)) (hts _ (q_G_i 1220 (by decide +kernel) rfl))) (qx_c (q_castR hkN) qx_n))))
  have h9 := body _ hgo (fun pc is t x lv aw ca sl d0 d3 d4 d7 d10 hx hx1 hx2 hc1 hs6 hKx hca hsl ad2 ls H locs hn0 had hlv hP hD hS => by
    have hR := (hamb.1 t x hx).1
    rw [hx1, hx2] at hR
    exact qx_throwXW B.exec B.bytes hl (own := RX11) (cls := nse) (names := nseN) (ik := 322) (is := is) (ic := 326) (ix := 13) (rx := prog_25_method_4_code) (sa := xd t) (by decide +kernel) (by decide +kernel) (by decide +kernel) (by decide +kernel) (hyc ▸ hown) (by decide +kernel) (by decide +kernel) (hts _ (q_G_i 1168 (by decide +kernel) rfl)) hini hR hat (fun w' hw => List.all_eq_true.mp nse_ot w' hw) hamb.2.2.2.2.2.1 hamb.2.2.2.2.2.2.1 hS (hlv.1.trans (hnL.trans hml.symm)) d0 d3 d4 d7 d10 (fun x hx => (hno x hx).elim)
      (show 2 + 3 < d by omega) (show 0 + (13 * (2 + 1) + 43) ≤ 64 * d by omega) hc1 hs6 B.notSynchronized
      (fun t' _ h1 h2 => ⟨⟨rfl, aw, ad2, hKx, had, hP.kept (fun k q hk => h2 q.1 (hP k q hk).lt), hD⟩, ⟨Nat.le_trans hS.1 h1, fun q q1 q2 => (h2 q (Nat.lt_of_lt_of_le q1 hS.1)).trans (hS.2.1 q q1 q2)⟩⟩)
      hS.2.2 hc1 hs6) (Nat.zero_le _) (Nat.zero_le _) ad
  have hlen : (lg_sl (a.map (q_cv ad xd))).length ≤ maxL := by rw [q_sl_len, q_cats_map]; exact hcat
  have hl := lv_entry (a.map (q_cv ad xd)) (n := maxL) hlen
  rw [lg_entry_eq]
  refine h9 _ s.heap [] (Nat.le_refl _) (fun _ _ => rfl) ?_ hP hD hS
  rw [hnL, ← q_args]
  exact hl

