/-! ===== calls of every kind ===== -/
section QI
variable {p : Program} {l : Launch} {e : Env} {R : Room} {s : State} {m : MethodId} {args : Array Value} {below : List Frame} {meth : Method} {c : Code} {T : State} {H : Heap} {locs : List Loc} {cells slots : Nat}
variable {y : MethodName} {bytes cc : ByteArray} {maxL nL mc ms n index : Nat} {ws : List Cond} {rm : Room} {Pc : Array Value → State → Prop} {Qc : Array Value → State → Outcome → State → Prop} {XC : String → Addr → State → State → Prop} {free : Addr → Prop} {Ts : List Cond} {own host : String} {b : Addr} {As rest : List Value} {g : JFrame}
/-- a constructor, by a plain link -/
theorem qx_runI (S : CallFix p m c cc nL s args Ts own) (hM : qx_Met l y ws rm Pc Qc XC mc ms free) (cw : CallB R s args own index y bytes maxL none ws rm mc ms n ∧ y.name = "<init>" ∧ (Cond.instanceMethod y).before args s = true) (hp : PreS s H Pc (.ref b :: As))
    (hg : g.method = m) (hn : As.length = n) (hsize : g.locals.size = nL) (hstack : g.stack = As.reverse ++ .ref b :: rest) (hW : 2 * g.monitorRoom + (rest.map fun v => v.category).sum ≤ 8) (hdg : decode cc g.pc = .ok (.invokespecial index, 3)) (hf : cells + mc ≤ R.cells ∧ slots + ms ≤ R.slots) :
    qx_Run p l e R s m args below meth c H locs cells slots mc ms g rest (Qc (Value.ref b :: As).toArray) XC free := by
  have hK : qx_Back l R p e below s args y 3 8 (PreOf R mc ms Pc) (PostOf Qc mc ms free) (qx_Post XC mc ms free) := qx_callBack cw.1 hM hp.1
  obtain ⟨⟨-, -, -, -, -, -, hcode, -, hy, hlen, hl⟩, hy1, hin⟩ := cw
  obtain ⟨hx, hb, hml, ho, -⟩ := S
  intro T hT X
  subst hg
  have hpl : e.platform.magicAccessors = ({} : Platform).magicAccessors := by rw [X.admits.platform]
  obtain ⟨mk, methM, cM, kP, vm₁, hnamed, hmethM, hcodeM, -, hlocalsM, -, hkP, -, hW₁, hstep₁⟩ := Steps.initColdArgs (e := e) X.here hx X.warmed hpl ho hy1 hy hl hin hcode (f := g) rfl (argsL := As) (a := b) (rest := rest) (fun sig h => hn.trans (hlen sig h)) hstack (by rw [hb]; exact hdg)
  have X₁ := X.noted hW₁
  rcases hK g.method meth c ⟨T.setVm vm₁, locs, cells, slots⟩ { g with stack := rest } (.invokespecial index) mk (Value.ref b :: As).toArray X₁ rfl (hsize.trans hml.symm) (by rw [hb]; exact hdg) hW (X₁.named hnamed) ⟨hf.1, hf.2, hp.2 (T.setVm vm₁) hT X₁.warmed⟩ with ⟨v, ⟨U', l2, c2, s2⟩, X', ⟨g', mk', t, L, e1, e2, hq, h1, hL, h2, h3⟩, hsteps⟩ | ⟨q, ⟨U', l2, c2, s2⟩, X', ⟨g', mk', t, L, E, ce, e1, e2, hq, hce, hcv, hcl, h1, hL, h2, h3⟩, hsteps⟩
  · dsimp only [Pt.U, Pt.locs, Pt.cells, Pt.slots] at X' e1 e2 h1 h2 h3 hsteps
    subst h1; subst h2; subst h3
    exact Or.inl ⟨v, (T.setVm vm₁).calling g' mk' (Value.ref b :: As).toArray, t, U', L, hT, X', hL, e1, e2, hq, fun target h => hstep₁ _ fun acts => by rw [doInvoke_state]; exact hsteps.trans h⟩
  · dsimp only [Pt.U, Pt.locs, Pt.cells, Pt.slots] at X' e1 e2 h1 h2 h3 hsteps hcl
    subst h1; subst h2; subst h3
    exact Or.inr ⟨q, (T.setVm vm₁).calling g' mk' (Value.ref b :: As).toArray, t, U', L, E, ce, hT, X', hL, e1, e2, hq, hce, hcv, qx_cls hW₁ hcl, hstep₁ _ fun acts => by rw [doInvoke_state]; exact hsteps⟩
/-- a constructor of a nest mate -/
theorem qx_runIN (S : CallFix p m c cc nL s args Ts own) (hM : qx_Met l y ws rm Pc Qc XC mc ms free) (hrc : rm.cells = mc) (hrs : rm.slots = ms) (hfr : rm.frames + 1 ≤ R.frames) (hlo : 8 + (maxL + 11) + rm.locals ≤ R.locals) (hws : ∀ w ∈ ws, ∀ (a' : Array Value) (U : State), s.WarmedH U.vm → w.before a' U = true) (hcw : Cond.code y bytes maxL none ∈ ws)
    (hcode : (Cond.code y bytes maxL none).before args s = true) (hini : (Cond.initialized y.cls).before args s = true) (hy : y.cls ≠ "java/lang/invoke/MethodHandle" ∧ y.cls ≠ "java/lang/invoke/VarHandle") (hlen : ∀ sig, parseMethodDescriptor y.desc = some sig → n = sig.parameters.length) (hl : (Cond.methodLinkNest own index y host).before args s = true) (hy1 : y.name = "<init>") (hin : (Cond.instanceMethod y).before args s = true) (hp : PreS s H Pc (.ref b :: As))
    (hg : g.method = m) (hn : As.length = n) (hsize : g.locals.size = nL) (hstack : g.stack = As.reverse ++ .ref b :: rest) (hW : 2 * g.monitorRoom + (rest.map fun v => v.category).sum ≤ 8) (hdg : decode cc g.pc = .ok (.invokespecial index, 3)) (hf : cells + mc ≤ R.cells ∧ slots + ms ≤ R.slots) :
    qx_Run p l e R s m args below meth c H locs cells slots mc ms g rest (Qc (Value.ref b :: As).toArray) XC free := by
  have hK : qx_Back l R p e below s args y 3 8 (PreOf R mc ms Pc) (PostOf Qc mc ms free) (qx_Post XC mc ms free) := qx_back (bytes := bytes) (maxL := maxL) (ret := none) hM hp.1 hrc hrs hfr hlo hws hcw (fun a' U hW => word_at hW (Or.inl (by first | rfl | simp [Cond.onTables, Cond.keeps, Cond.steady])) hini)
  obtain ⟨hx, hb, hml, ho, -⟩ := S
  intro T hT X
  subst hg
  have hpl : e.platform.magicAccessors = ({} : Platform).magicAccessors := by rw [X.admits.platform]
  obtain ⟨mk, methM, cM, kP, vm₁, hnamed, hmethM, hcodeM, -, hlocalsM, -, hkP, -, hW₁, hstep₁⟩ := Steps.initColdArgsNest (e := e) X.here hx X.warmed hpl ho hy1 hy hl hin hcode (f := g) rfl (argsL := As) (a := b) (rest := rest) (fun sig h => hn.trans (hlen sig h)) hstack (by rw [hb]; exact hdg)
  have X₁ := X.noted hW₁
  rcases hK g.method meth c ⟨T.setVm vm₁, locs, cells, slots⟩ { g with stack := rest } (.invokespecial index) mk (Value.ref b :: As).toArray X₁ rfl (hsize.trans hml.symm) (by rw [hb]; exact hdg) hW (X₁.named hnamed) ⟨hf.1, hf.2, hp.2 (T.setVm vm₁) hT X₁.warmed⟩ with ⟨v, ⟨U', l2, c2, s2⟩, X', ⟨g', mk', t, L, e1, e2, hq, h1, hL, h2, h3⟩, hsteps⟩ | ⟨q, ⟨U', l2, c2, s2⟩, X', ⟨g', mk', t, L, E, ce, e1, e2, hq, hce, hcv, hcl, h1, hL, h2, h3⟩, hsteps⟩
  · dsimp only [Pt.U, Pt.locs, Pt.cells, Pt.slots] at X' e1 e2 h1 h2 h3 hsteps
    subst h1; subst h2; subst h3
    exact Or.inl ⟨v, (T.setVm vm₁).calling g' mk' (Value.ref b :: As).toArray, t, U', L, hT, X', hL, e1, e2, hq, fun target h => hstep₁ _ fun acts => by rw [doInvoke_state]; exact hsteps.trans h⟩
  · dsimp only [Pt.U, Pt.locs, Pt.cells, Pt.slots] at X' e1 e2 h1 h2 h3 hsteps hcl
    subst h1; subst h2; subst h3
    exact Or.inr ⟨q, (T.setVm vm₁).calling g' mk' (Value.ref b :: As).toArray, t, U', L, E, ce, hT, X', hL, e1, e2, hq, hce, hcv, qx_cls hW₁ hcl, hstep₁ _ fun acts => by rw [doInvoke_state]; exact hsteps⟩
end QI
section QR
variable {p : Program} {l : Launch} {e : Env} {R : Room} {s : State} {m : MethodId} {args : Array Value} {below : List Frame} {meth : Method} {c : Code} {own : String} {cc : ByteArray} {D : va_G} {cy : Nat → ClassId} {xd xv : Nat → Nat} {A : Nat → Prop} {n0 : Nat} {ad0 : Nat → Nat} {Q : State → Prop} {E : q_E}
/-- the callee runs from here, by its contract -/
def q_RH (p : Program) (l : Launch) (e : Env) (R : Room) (s : State) (m : MethodId) (args : Array Value) (below : List Frame) (meth : Method) (c : Code) (D : va_G) (cy : Nat → ClassId) (xd xv : Nat → Nat) (A : Nat → Prop) (nL pc n rc mc ms : Nat) (sp : q_P) : Prop :=
  ∀ (ad : Nat → Nat) (ls : Array Slot) (H : Heap) (locs : List Loc) (ca sl : Nat) (aw : List q_C) (as0 rest as : List Value) (ad' xd' : Nat → Nat) (w : List q_C) (K : q_K),
    ls.size = nL → as0.length = n → as.map (q_cv ad' xd') = as0.map (q_cv ad xd) → q_rc rc as0 aw = true → q_r8 rc as0 = true → q_cats rest ≤ 8 → ca + mc ≤ R.cells → sl + ms ≤ R.slots → va_P D vwCl (q_cw cy ad xd 0 aw) H → va_S A s.heap H locs →
    (∀ U : State, U.heap = H → s.WarmedH U.vm → q_Pc D cy ad' xd' xv as w H.size ((as0.map (q_cv ad xd)).toArray) U) → sp as w K →
    qx_Run p l e R s m args below meth c H locs ca sl mc ms (F0 m pc ls ((as0.reverse ++ rest).map (q_cv ad xd))) (rest.map (q_cv ad xd)) (q_Qc D cy ad' xd' w.length K (va_A (q_cw cy ad' xd' 0 w) H.size) (as0.map (q_cv ad xd)).toArray) (q_XC D cy ad' xd' w.length K (va_A (q_cw cy ad' xd' 0 w) H.size)) (va_A (q_cw cy ad' xd' 0 w) H.size)
theorem q_GoodW {w0 : Cond} (h : w0 ∈ q_G) : GoodIn q_G (w0 :: q_G) := q_G_good (fun w hw => (List.mem_cons.mp hw).elim (fun e => by rw [e]; exact h) id)
theorem q_rm_ok {d mc ms mL dp : Nat} (h1 : d + 1 ≤ dp) (h2 : mL ≤ 45) (h3 : dp ≤ R.frames) (h4 : 64 * dp ≤ R.locals) : (q_rm d mc ms).frames + 1 ≤ R.frames ∧ 8 + (mL + 11) + (q_rm d mc ms).locals ≤ R.locals := by
  simp only [q_rm]
  constructor <;> omega
theorem q_ofst {ad xd : Nat → Nat} (as0 rest : List Value) : (as0.reverse ++ rest).map (q_cv ad xd) = (as0.map (q_cv ad xd)).reverse ++ rest.map (q_cv ad xd) := by rw [List.map_append, List.map_reverse]
theorem q_RV (hC : q_Cx p l s m args meth c R own cc D cy xd xv A E) {pc idx n rc d mL mc ms : Nat} {fd : List (Nat ⊕ (Nat × Nat))} {sp : q_P} (hco : q_CO l own idx (n, rc, d, mL, mc, ms, fd, sp)) (hd : decode cc pc = .ok (.invokevirtual idx, 3)) (h1 : d + 1 ≤ q_dp E) (h2 : mL ≤ 45) (hrc : rc ≤ 96 ∨ rc = 98) :
    q_RH p l e R s m args below meth c D cy xd xv A (q_nL E) pc n rc mc ms sp := by
  obtain ⟨hx, hb, hml, hown, hts, hK, hA, hct, hamb, hin, ⟨hR1, hR2, -, -⟩, hEok⟩ := hC
  obtain ⟨y, bytes, ret, np, ⟨hy1, hy2, hpd⟩, hini, hcase⟩ := hco
  intro ad ls H locs ca sl aw as0 rest as ad' xd' w K hls hn has hrcv hr8 hcat hca hsl hP hS hPc hsp
  have hR := q_rm_ok (mc := mc) (ms := ms) h1 h2 hR1 hR2
  rw [q_ofst]
  have hroom : ∀ st : List Value, 2 * (F0 m pc ls st).monitorRoom + ((rest.map (q_cv ad xd)).map fun v => v.category).sum ≤ 8 := fun st => lv_room (by rw [q_cats_eq]; exact hcat)
  have S : CallFix p m c cc (q_nL E) s args q_G own := ⟨hx, hb, hml, hown, hts⟩
  -- the receiver
  have hsplit : ∀ {b : Nat} {tl : List Value}, as0.map (q_cv ad xd) = .ref b :: tl → tl.length + 1 = n := by
    intro b tl hh
    have := congrArg List.length hh
    rw [List.length_map, List.length_cons] at this
    omega
  rcases hcase with ⟨hrc9, hnp, hcl, hlk, hinm, hsel, hcc⟩ | ⟨h97, -⟩ | ⟨h98, hnp, hcs, hlk, hinm, hsel, hcc⟩ | ⟨h99, -⟩
  · have hrecv : ∃ b tl, as0.map (q_cv ad xd) = .ref b :: tl ∧ ∃ cellB : Cell, H[b]? = some cellB ∧ cellB.vm.isStatics = false ∧ s.vm.findClass y.cls = some cellB.cls := by
      unfold q_rc at hrcv
      rw [Nat.ble_eq_true_of_le hrc9] at hrcv
      match as0, hrcv with
      | .ref p0 :: as1, hrcv =>
        dsimp only at hrcv
        split at hrcv
        · next ci fs hat =>
          have e1 := Nat.eq_of_beq_eq_true hrcv
          subst e1
          obtain ⟨q, hq1, hq2⟩ : ∃ q, vwCl[ci]? = some q ∧ q.1 = y.cls := by
            cases hv : vwCl[ci]? with
            | none => rw [hv] at hcl; cases hcl
            | some q => rw [hv] at hcl; exact ⟨q, rfl, Option.some.inj hcl⟩
          refine ⟨ad p0, as1.map (q_cv ad xd), rfl, ?_⟩
          rw [← hq2]
          exact va_recv (q0 := p0) hK hP hq1 (q_cell hat)
        · cases hrcv
    obtain ⟨b, tl, e1, hcellB⟩ := hrecv
    have e3 : tl.length = np := by have := hsplit e1; omega
    rcases hcc with ⟨hcode, hct⟩ | ⟨hh, hcode, hct⟩
    · have hM := hct D cy ad' xd' xv as w K H.size hsp
      rw [e1] at hPc ⊢
      have hg9 : GoodIn q_G (wsV own idx y.cls y (Cond.code y bytes mL ret :: q_G)) := by
        intro w9 hw
        rcases List.mem_append.mp hw with h | h
        · simp only [List.mem_cons, List.not_mem_nil, or_false] at h
          rcases h with rfl | rfl | rfl | rfl
          · exact q_G_good (ws := [_]) (fun w hw => by rw [List.mem_singleton.mp hw]; exact hlk) _ List.mem_cons_self
          · exact q_G_good (ws := [_]) (fun w hw => by rw [List.mem_singleton.mp hw]; exact hinm) _ List.mem_cons_self
          · exact q_G_good (ws := [_]) (fun w hw => by rw [List.mem_singleton.mp hw]; exact hsel) _ List.mem_cons_self
          · exact q_G_good (ws := [_]) (fun w hw => by rw [List.mem_singleton.mp hw]; exact hini) _ List.mem_cons_self
        · exact q_GoodW hcode _ h
      exact qx_runV S hM (cwV np hts hg9 rfl rfl rfl ⟨rfl, hy1, hy2, hpd⟩ hR) ⟨q_Pc_blind, hcellB, hPc⟩ rfl e3 hls (by rw [List.reverse_cons, List.append_assoc]; rfl) (hroom _) hd ⟨hca, hsl⟩
    · have hM := hct D cy ad' xd' xv as w K H.size hsp
      rw [e1] at hPc ⊢
      have hgw : GoodIn q_G (Cond.codeWith y bytes mL ret hh :: q_G) := q_GoodW hcode
      have cw : qx_CVW R s args own y.cls idx y bytes mL ret hh (Cond.codeWith y bytes mL ret hh :: q_G) (q_rm d mc ms) mc ms np :=
        ⟨⟨rfl, rfl, hR.1, hR.2, pay_in hts hgw, List.mem_cons_self⟩, hts _ hcode, hts _ hini, ⟨hy1, hy2⟩, fun sig h => by rw [h] at hpd; exact (Option.some.inj hpd).symm, hts _ hlk, hts _ hinm, hts _ hsel⟩
      exact qx_runVX S hM cw ⟨q_Pc_blind, hcellB, hPc⟩ rfl e3 hls (by rw [List.reverse_cons, List.append_assoc]; rfl) (hroom _) hd ⟨hca, hsl⟩
  · omega
  · have hrecv : ∃ b tl, as0.map (q_cv ad xd) = .ref b :: tl ∧ ∃ cellB : Cell, H[b]? = some cellB ∧ cellB.vm.isStatics = false ∧ s.vm.findClass y.cls = some cellB.cls := by
      unfold q_r8 at hr8
      rw [h98] at hr8
      match as0, hr8 with
      | .retAddr e0 :: as1, hr8 =>
        have he0 : e0 < 44 := Nat.le_of_ble_eq_true hr8
        obtain ⟨x, hx9⟩ : ∃ x, q_str[e0]? = some x := ⟨_, List.getElem?_eq_getElem (show e0 < q_str.length from he0)⟩
        obtain ⟨-, hO, -⟩ := hamb.1 e0 x hx9
        obtain ⟨cell, k1, k2, k3, -⟩ := hO.kept hS.2.1
        exact ⟨xd e0, as1.map (q_cv ad xd), rfl, cell, k1, k2, by rw [hcs]; exact k3⟩
    obtain ⟨b, tl, e1, hcellB⟩ := hrecv
    have e3 : tl.length = np := by have := hsplit e1; omega
    obtain ⟨hcode, hct⟩ := hcc
    have hM := hct D cy ad' xd' xv as w K H.size hsp
    rw [e1] at hPc ⊢
    have hg9 : GoodIn q_G (wsV own idx y.cls y (Cond.code y bytes mL ret :: q_G)) := by
      intro w9 hw
      rcases List.mem_append.mp hw with h | h
      · simp only [List.mem_cons, List.not_mem_nil, or_false] at h
        rcases h with rfl | rfl | rfl | rfl
        · exact q_G_good (ws := [_]) (fun w hw => by rw [List.mem_singleton.mp hw]; exact hlk) _ List.mem_cons_self
        · exact q_G_good (ws := [_]) (fun w hw => by rw [List.mem_singleton.mp hw]; exact hinm) _ List.mem_cons_self
        · exact q_G_good (ws := [_]) (fun w hw => by rw [List.mem_singleton.mp hw]; exact hsel) _ List.mem_cons_self
        · exact q_G_good (ws := [_]) (fun w hw => by rw [List.mem_singleton.mp hw]; exact hini) _ List.mem_cons_self
      · exact q_GoodW hcode _ h
    exact qx_runV S hM (cwV np hts hg9 rfl rfl rfl ⟨rfl, hy1, hy2, hpd⟩ hR) ⟨q_Pc_blind, hcellB, hPc⟩ rfl e3 hls (by rw [List.reverse_cons, List.append_assoc]; rfl) (hroom _) hd ⟨hca, hsl⟩
  · omega
theorem q_RS2 (hC : q_Cx p l s m args meth c R own cc D cy xd xv A E) {pc idx n rc d mL mc ms : Nat} {fd : List (Nat ⊕ (Nat × Nat))} {sp : q_P} (hco : q_CO l own idx (n, rc, d, mL, mc, ms, fd, sp)) (hd : decode cc pc = .ok (.invokestatic idx, 3)) (h1 : d + 1 ≤ q_dp E) (h2 : mL ≤ 45) (hrc : rc = 99) :
    q_RH p l e R s m args below meth c D cy xd xv A (q_nL E) pc n rc mc ms sp := by
  obtain ⟨hx, hb, hml, hown, hts, hK, hA, hct, hamb, hin, ⟨hR1, hR2, -, -⟩, hEok⟩ := hC
  obtain ⟨y, bytes, ret, np, ⟨hy1, hy2, hpd⟩, hini, hcase⟩ := hco
  intro ad ls H locs ca sl aw as0 rest as ad' xd' w K hls hn has hrcv hr8 hcat hca hsl hP hS hPc hsp
  have hR := q_rm_ok (mc := mc) (ms := ms) h1 h2 hR1 hR2
  rw [q_ofst]
  have hroom : ∀ st : List Value, 2 * (F0 m pc ls st).monitorRoom + ((rest.map (q_cv ad xd)).map fun v => v.category).sum ≤ 8 := fun st => lv_room (by rw [q_cats_eq]; exact hcat)
  have S : CallFix p m c cc (q_nL E) s args q_G own := ⟨hx, hb, hml, hown, hts⟩
  rcases hcase with ⟨h96, -⟩ | ⟨h97, -⟩ | ⟨h98, -⟩ | ⟨h99, hnp, hlk, hst, hcc⟩
  · omega
  · omega
  · omega
  · have e3 : (as0.map (q_cv ad xd)).length = np := by rw [List.length_map]; omega
    rcases hcc with ⟨hcode, hct⟩ | ⟨hh, hcode, hct⟩
    · have hM := hct D cy ad' xd' xv as w K H.size hsp
      exact qx_runS S hM ⟨callB_of np hts (q_GoodW hcode) rfl rfl rfl (hts _ hini) (hts _ hlk) ⟨hy1, hy2, hpd⟩ hR, hts _ hst⟩ ⟨q_Pc_blind, hPc⟩ rfl e3 hls rfl (hroom _) hd ⟨hca, hsl⟩
    · have hM := hct D cy ad' xd' xv as w K H.size hsp
      have hgw : GoodIn q_G (Cond.codeWith y bytes mL ret hh :: q_G) := q_GoodW hcode
      have cw : qx_CSW R s args own idx y bytes mL ret hh (Cond.codeWith y bytes mL ret hh :: q_G) (q_rm d mc ms) mc ms np :=
        ⟨⟨rfl, rfl, hR.1, hR.2, pay_in hts hgw, List.mem_cons_self⟩, hts _ hcode, hts _ hini, ⟨hy1, hy2⟩, fun sig h => by rw [h] at hpd; exact (Option.some.inj hpd).symm, hts _ hlk, hts _ hst⟩
      exact qx_runSX S hM cw ⟨q_Pc_blind, hPc⟩ rfl e3 hls rfl (hroom _) hd ⟨hca, hsl⟩
theorem q_RI2 (hC : q_Cx p l s m args meth c R own cc D cy xd xv A E) {pc idx n rc d mL mc ms : Nat} {fd : List (Nat ⊕ (Nat × Nat))} {sp : q_P} (hco : q_CO l own idx (n, rc, d, mL, mc, ms, fd, sp)) (hd : decode cc pc = .ok (.invokespecial idx, 3)) (h1 : d + 1 ≤ q_dp E) (h2 : mL ≤ 45) (hrc : rc = 97) :
    q_RH p l e R s m args below meth c D cy xd xv A (q_nL E) pc n rc mc ms sp := by
  obtain ⟨hx, hb, hml, hown, hts, hK, hA, hct, hamb, hin, ⟨hR1, hR2, -, -⟩, hEok⟩ := hC
  obtain ⟨y, bytes, ret, np, ⟨hy1, hy2, hpd⟩, hini, hcase⟩ := hco
  intro ad ls H locs ca sl aw as0 rest as ad' xd' w K hls hn has hrcv hr8 hcat hca hsl hP hS hPc hsp
  have hR := q_rm_ok (mc := mc) (ms := ms) h1 h2 hR1 hR2
  rw [q_ofst]
  have hroom : ∀ st : List Value, 2 * (F0 m pc ls st).monitorRoom + ((rest.map (q_cv ad xd)).map fun v => v.category).sum ≤ 8 := fun st => lv_room (by rw [q_cats_eq]; exact hcat)
  have S : CallFix p m c cc (q_nL E) s args q_G own := ⟨hx, hb, hml, hown, hts⟩
  rcases hcase with ⟨h96, -⟩ | ⟨h97, hnp, hret, hnm, hlk, hinm, hcode, hct⟩ | ⟨h98, -⟩ | ⟨h99, -⟩
  · omega
  · have hrf : ∃ b tl, as0.map (q_cv ad xd) = .ref b :: tl := by
      unfold q_r8 at hr8
      rw [hrc] at hr8
      match as0, hr8 with
      | .ref p0 :: as1, hr8 => exact ⟨ad p0, as1.map (q_cv ad xd), rfl⟩
    obtain ⟨b, tl, e1⟩ := hrf
    have e3 : tl.length = np := by
      have := congrArg List.length e1
      rw [List.length_map, List.length_cons] at this
      omega
    subst hret
    have hM := hct D cy ad' xd' xv as w K H.size hsp
    rw [e1] at hPc ⊢
    rcases hlk with hlk | ⟨host, hlk⟩
    · exact qx_runI S hM ⟨callB_of np hts (q_GoodW hcode) rfl rfl rfl (hts _ hini) (hts _ hlk) ⟨hy1, hy2, hpd⟩ hR, hnm, hts _ hinm⟩ ⟨q_Pc_blind, hPc⟩ rfl e3 hls (by rw [List.reverse_cons, List.append_assoc]; rfl) (hroom _) hd ⟨hca, hsl⟩
    · have hl9 : (Cond.methodLinkNest own idx y host).before args s = true := va_Nw.use rfl (hamb.2.2.2.2.2.2.2 _ hlk)
      exact qx_runIN S hM rfl rfl hR.1 hR.2 (pay_in hts (q_GoodW hcode)) List.mem_cons_self (hts _ hcode) (hts _ hini) ⟨hy1, hy2⟩ (fun sig h => by rw [h] at hpd; exact (Option.some.inj hpd).symm) hl9 hnm (hts _ hinm) ⟨q_Pc_blind, hPc⟩ rfl e3 hls (by rw [List.reverse_cons, List.append_assoc]; rfl) (hroom _) hd ⟨hca, hsl⟩
  · omega
  · omega
end QR
