/-! ===== law.led: what is thrown is caught ===== -/
def tL_led : List q_I := [(0, .aload 5, 2, 0, 0), (2, .iconst 0, 1, 0, 0), (3, .aload_n 0, 1, 0, 0), (4, .iload_n 1, 1, 0, 0), (5, .iload_n 2, 1, 0, 0), (6, .iload_n 3, 1, 0, 0), (7, .iload 4, 2, 0, 0), (9, .invokevirtual 7, 3, 0, 0), (12, .i2l, 1, 0, 0), (13, .lastore, 1, 0, 0), (14, .goto 7, 3, 0, 21), (17, .astore 6, 2, 0, 0), (19, .iconst 1, 1, 1, 0), (20, .ireturn, 1, 0, 0), (21, .iconst 0, 1, 0, 0), (22, .ireturn, 1, 0, 0)]
theorem tL_led_ok : (tL_led.all (q_okI cL_led)) = true := by decide +kernel
def EL_led : q_E := (tL_led, [(9, [])], 7, [], [], [], [], [], [], [], 7, 1, 6, (some .int), [], [], 0, 0)
theorem okL_led (l : Launch) : q_Eok l RL cL_led EL_led := ⟨tL_led_ok, q_nil, q_nil, q_nil, q_nil, q_nil, q_nil, q_nil, (fun h => absurd h (by decide))⟩
def ledQ (C : q_N) : Prop := ∀ (rest : List Value) (aw : List q_C) (p x d i : Int32) (K2 : q_K), spX11_led [.ref 0, .int p, .int x, .int d, .int i] aw K2 → (∃ fs, aw[0]? = some (.inr (11, fs))) → q_vs aw.length rest = true → q_cats rest ≤ 8 → (∀ w', ¬ K2 (.inl none) w') → (∀ v w', K2 (.inl (some v)) w' → aw.length ≤ w'.length ∧ C 12 [] (v :: rest) w' 1 6) → (∀ w', K2 (.inr .null) w' → aw.length ≤ w'.length ∧ C 19 [] [] w' 1 6) → C 9 [] (.int i :: .int d :: .int x :: .int p :: .ref 0 :: rest) aw 0 0
section LedRun
variable {p : Program} {l : Launch} {e : Env} {R : Room} {s : State} {m : MethodId} {args : Array Value} {below : List Frame} {meth : Method} {c : Code} {D : va_G} {cy : Nat → ClassId} {xd xv : Nat → Nat} {A : Nat → Prop} {n0 : Nat} {ad0 : Nat → Nat} {Q : State → Prop}
set_option maxHeartbeats 1000000 in
theorem ledQ_ok (hl : l.stackTraces = false) (hC : q_Cx p l s m args meth c R RL cL_led D cy xd xv A EL_led) (htab : c.exceptionTable.toList = tableOf [(0, 14, 17, 13)]) (hlink : (Cond.classLink RL 13 nse).before args s = true) :
    ledQ (q_W p l e R s m args below meth c D cy xd A n0 ad0 (q_nL EL_led) Q) := by
  obtain ⟨hx, hb, hml, hown, hts, hK, hA, hct, hamb, hin, ⟨hR1, hR2, hRC, hRS⟩, hEok⟩ := hC
  intro rest aw a1 a2 a3 a4 K2 hsp ⟨fs, h0⟩ v2 hcat k0 k1 k2 hca hsl ad ls H locs hn0 had hlv hP hD hS
  have hAs := q_subA hD hS hA
  have hM := ctX11_led l hl D cy ad xd xv _ aw K2 H.size hsp
  have hR := q_rm_ok (R := R) (d := 6) (mc := 1) (ms := 6) (mL := 6) (dp := 7) (by decide) (by decide) hR1 hR2
  have S : CallFix p m c cL_led 7 s args q_G RL := ⟨hx, hb, hml, hown, hts⟩
  have hPc : ∀ U : State, U.heap = H → s.WarmedH U.vm → q_Pc D cy ad xd xv [.ref 0, .int a1, .int a2, .int a3, .int a4] aw H.size (Value.ref (ad 0) :: [.int a1, .int a2, .int a3, .int a4]).toArray U := by
    intro U hU hW
    refine ⟨rfl, by rw [hU], by rw [hU]; exact hP, hK.moved hW.alike, hD.weaken (fun _ _ _ _ => trivial), ?_⟩
    exact hamb.move hW (fun a h1 h2 => by rw [hU]; exact hS.2.1 a h1 h2) hAs
  have hcellB := va_recv (q0 := 0) hK hP (show vwCl[11]? = some (RX11, TX11, _) from rfl) (q_cell (by rw [q_at_eq]; exact h0))
  have hg9 : GoodIn q_G (wsV RL 7 RX11 yX11_led (Cond.code yX11_led cX11_led 6 (some .int) :: q_G)) := by
    intro w9 hw
    rcases List.mem_append.mp hw with h | h
    · simp only [List.mem_cons, List.not_mem_nil, or_false] at h
      rcases h with rfl | rfl | rfl | rfl
      · exact q_G_good (ws := [_]) (fun w hw => by rw [List.mem_singleton.mp hw]; exact q_G_i 1164 (by decide +kernel) rfl) _ List.mem_cons_self
      · exact q_G_good (ws := [_]) (fun w hw => by rw [List.mem_singleton.mp hw]; exact q_G_i 1165 (by decide +kernel) rfl) _ List.mem_cons_self
      · exact q_G_good (ws := [_]) (fun w hw => by rw [List.mem_singleton.mp hw]; exact q_G_i 1166 (by decide +kernel) rfl) _ List.mem_cons_self
      · exact q_G_good (ws := [_]) (fun w hw => by rw [List.mem_singleton.mp hw]; exact q_G_i 1 (by decide +kernel) rfl) _ List.mem_cons_self
    · exact q_GoodW (q_G_i 1167 (by decide +kernel) rfl) _ h
  have run := qx_runV (p := p) (e := e) (below := below) (meth := meth) (locs := locs) (cells := 0) (slots := 0) (g := F0 m 9 ls ((Value.int a4 :: .int a3 :: .int a2 :: .int a1 :: .ref 0 :: rest).map (q_cv ad xd))) (rest := rest.map (q_cv ad xd)) (index := 7) S hM (cwV 4 hts hg9 rfl rfl rfl ⟨rfl, by decide +kernel, by decide +kernel, by decide +kernel⟩ hR) ⟨q_Pc_blind, hcellB, hPc⟩ rfl rfl hlv.1 rfl (lv_room (by rw [q_cats_eq]; exact hcat)) (show decode cL_led 9 = .ok (.invokevirtual 7, 3) by decide +kernel) ⟨by rw [hRC]; exact Nat.le_refl 1, by rw [hRS]; exact Nat.le_refl 6⟩
  intro T hT X
  rcases run T hT X with ⟨v, st₀, t, T', L, h0, X', hL, e1, e2, ⟨⟨r, w', ad1, hv, hK2, ha, hP1, hD1⟩, hF⟩, st⟩ | ⟨q, st₀, t, T', L, E9, ce, h0, X', hL, e1, e2, ⟨⟨hE9, w', ad1, hK2, ha, hP1, hD1⟩, hF⟩, hce, hcv, hcl, st⟩
  · cases hv
    obtain ⟨j1, j2, j3⟩ := qx_keep h0 e1 hS (fun q _ h => hAs q h) hAs hL hF
    rw [← e1] at hP1
    cases r with
    | none => exact (k0 _ hK2).elim
    | some v =>
      obtain ⟨hle, hW⟩ := k1 v w' hK2
      have e3 : rest.map (q_cv ad1 xd) = rest.map (q_cv ad xd) := q_vs_ok (fun i hi => ha i hi) v2
      have := hW (by rw [hRC]; exact Nat.le_refl 1) (by rw [hRS]; exact Nat.le_refl 6) ad1 ls T'.heap (locs ++ L) (Nat.le_trans hn0 hle) (fun i hi => by rw [ha i (Nat.lt_of_lt_of_le hi hn0)]; exact had i hi) hlv hP1 (hD1.weaken (fun q _ _ h => hAs _ h)) j3
      rw [List.map_cons, e3] at this
      obtain ⟨t2, a1, b1⟩ := this T' rfl X'
      exact ⟨t2, st t2 a1, b1⟩
  · obtain ⟨j1, j2, j3⟩ := qx_keep h0 e1 hS (fun q _ h => hAs q h) hAs hL hF
    rw [← e1] at hP1
    subst hE9
    obtain ⟨hle, hW⟩ := k2 w' hK2
    have hkk : qx_W p l e R s m args below meth c T'.heap (locs ++ L) (0 + 1) (0 + 6) Q (F0 m 9 ls (rest.map (q_cv ad xd))) q := by
      refine qx_catch (E := nse) (name := nse) (own := RL) (x := ⟨0, 14, 17, 13⟩) hown [] [] (by rw [htab]; rfl) (fun z hz => nomatch hz) (by decide) (by decide) hlink (q_castR hcl) (by rw [e1]; exact hce) hcv hcl ?_
      refine lv_astore hx hb (i := 6) (by decide +kernel) hlv (show 6 < 7 by decide) rfl (fun ls' hl' => ?_)
      exact hW (by rw [hRC]; exact Nat.le_refl 1) (by rw [hRS]; exact Nat.le_refl 6) ad1 ls' T'.heap (locs ++ L) (Nat.le_trans hn0 hle) (fun i hi => by rw [ha i (Nat.lt_of_lt_of_le hi hn0)]; exact had i hi) ⟨hl'.1, hl'.2.1, fun q hq => nomatch hq⟩ hP1 (hD1.weaken (fun q _ _ h => hAs _ h)) j3
    obtain ⟨t2, a1, b1⟩ := hkk T' rfl X'
    exact ⟨t2, st.trans a1, b1⟩
end LedRun
set_option maxHeartbeats 400000 in
theorem ct_ofLed {l : Launch} (hl : l.stackTraces = false) {sp : q_P}
    (body : ∀ (a : List Value) (w : List q_C) (K : q_K), sp a w K → q_cats a ≤ 7 ∧ ∀ C : q_N, (∀ pc lv st aw ca sl, q_go EL_led C (qzK K) pc lv st aw ca sl → C pc lv st aw ca sl) → ledQ C → C 0 (lv_args 0 a) [] w 0 0) :
    q_CT l yL_led (.codeWith yL_led cL_led 7 (some .int) [(0, 14, 17, 13)]) 7 1 6 sp := by
  intro D cy ad xd xv a w K sz hsp
  obtain ⟨hcat, body⟩ := body a w K hsp
  refine qx_ofWH (cc := cL_led) (maxL := 7) (ret := some .int) (hh := [(0, 14, 17, 13)]) (by decide +kernel) rfl ?_
  intro p e s m args below meth c s₁ B hml hv
  obtain ⟨rfl, hsz, hP, hK, hD0, hamb⟩ := hv
  have hts0 := atoms_spec (ws := Cond.codeWith yL_led cL_led 7 (some .int) [(0, 14, 17, 13)] :: q_G) B.pre
  have hts : ∀ w ∈ q_G, w.before (a.map (q_cv ad xd)).toArray s = true := fun w hw => hts0 w (List.mem_cons_of_mem _ hw)
  have htab : c.exceptionTable.toList = tableOf [(0, 14, 17, 13)] := qx_table (x := yL_led) B (hts0 _ List.mem_cons_self)
  have hown : s.vm.findClass RL = some m.cls := findClass_of_methodNamed B.named
  subst hsz
  have hD := hD0.self (sz := s.heap.size)
  have hA : ∀ q : Nat, s.heap.size ≤ q → va_A (q_cw cy ad xd 0 w) s.heap.size q := fun q h => Or.inr h
  have hS : va_S (va_A (q_cw cy ad xd 0 w) s.heap.size) s.heap s.heap [] := va_S.rf
  have hcx : q_Cx p l s m (a.map (q_cv ad xd)).toArray meth c (q_rm 7 1 6) RL cL_led D cy xd xv (va_A (q_cw cy ad xd 0 w) s.heap.size) EL_led :=
    ⟨B.exec, B.bytes, hml, hown, hts, hK, hA, (q_nil (α := Nat × Nat × (Nat → Int32))), hamb, (fun ci hci => (by cases hci)), ⟨Nat.le_refl _, Nat.le_refl _, rfl, rfl⟩, okL_led l⟩
  have hgo := q_go_ok (e := e) (below := below) (n0 := w.length) (ad0 := ad) hcx (z := qzK K) (Q := qx_MQ below (q_Qc D cy ad xd w.length K (va_A (q_cw cy ad xd 0 w) s.heap.size)) (q_XC D cy ad xd w.length K (va_A (q_cw cy ad xd 0 w) s.heap.size)) (a.map (q_cv ad xd)).toArray s 1 6 (va_A (q_cw cy ad xd 0 w) s.heap.size)) (q_Th_no rfl) (q_Rt_ofX B.exec B.bytes B.returns B.notSynchronized rfl rfl)
  have h9 := body _ hgo (ledQ_ok hl hcx htab (hts _ (q_G_i 1163 (by decide +kernel) rfl))) (Nat.zero_le _) (Nat.zero_le _) ad
  have hlen : (lg_sl (a.map (q_cv ad xd))).length ≤ 7 := by rw [q_sl_len, q_cats_map]; exact hcat
  have hl := lv_entry (a.map (q_cv ad xd)) (n := 7) hlen
  rw [lg_entry_eq]
  refine h9 _ s.heap [] (Nat.le_refl _) (fun _ _ => rfl) ?_ hP hD hS
  rw [← q_args]
  exact hl
def spL_led : q_P := fun a w K => ∃ (tl : Nat) (hb : Bool) (td : Int32) (tr : Int32) (lf : Int32) (tx : Nat → Int32) (rb : Value) (N : NT) (B : BT) (R : RT) (L : LT) (G : GT) (B2 : BT) (R2 : RT) (L2 : LT) (G2 : GT) (P : PT) (W : WT) (S : ST) (Cc : CT) (Y : YT) (D : DT) (n : Nat) (f : Nat → Int64) (p x d i : Int32), w = (stripW 0 tl hb td tr lf tx rb N B R L G B2 R2 L2 G2 P W S Cc Y D) ++ [.inl (2, 1, .inr f)] ∧ a = [.ref 0, .int p, .int x, .int d, .int i, .ref 103] ∧ pOk P ∧ pPl P n ∧ rOk R ∧ rEnd R n ∧ L_n L ≤ 24 ∧ B.1 0 = nI n ∧ n ≤ 8 ∧ (if trvR B.1 P p x d = 0 then (if 0 ≤ i ∧ i < nI (ledT R (ledW P L R n p d W) x).1 then K (.inl (some (.int 0))) ((stripW 0 tl hb td tr lf tx rb N B R L G B2 R2 L2 G2 P (wTr (ledW P L R n p d W) (ledT R (ledW P L R n p d W) x).2) S Cc Y D) ++ [.inl (2, 1, .inr (vp_updL f 0 ((ledT R (ledW P L R n p d W) x).2 ((ledT R (ledW P L R n p d W) x).1 - 1 - i.toNatClampNeg)).toInt64))]) else K (.inl (some (.int 1))) ((stripW 0 tl hb td tr lf tx rb N B R L G B2 R2 L2 G2 P (wTr (ledW P L R n p d W) (ledT R (ledW P L R n p d W) x).2) S Cc Y D) ++ [.inl (2, 1, .inr f)])) else K (.inl (some (.int 1))) ((stripW 0 tl hb td tr lf tx rb N B R L G B2 R2 L2 G2 P W S Cc Y D) ++ [.inl (2, 1, .inr f)]))
set_option maxRecDepth 100000 in
set_option maxHeartbeats 1000000 in
theorem ctL_led (l : Launch) (hl : l.stackTraces = false) : q_CT l yL_led (.codeWith yL_led cL_led 7 (some .int) [(0, 14, 17, 13)]) 7 1 6 spL_led := by
  refine ct_ofLed hl ?_
  intro a w K h
  obtain ⟨tl, hb, td, tr, lf, tx, rb, N, B, R, L, G, B2, R2, L2, G2, P, W, S, Cc, Y, D, n, f, p, x, d, i, rfl, rfl, ho, hpl, hro, hre, hL, hB, hn, hK⟩ := h
  refine ⟨Nat.le_of_ble_eq_true rfl, fun C hC hQ => hC _ _ _ _ _ _ ?_⟩
  refine hQ [.int 0, .ref 103] _ p x d i (fun o w' => match o with
    | .inl (some (.int v)) => ∃ Wn : WT, w' = (stripW 0 tl hb td tr lf tx rb N B R L G B2 R2 L2 G2 P (Wn) S Cc Y D) ++ [.inl (2, 1, .inr f)] ∧ K (.inl (some (.int 0))) ((stripW 0 tl hb td tr lf tx rb N B R L G B2 R2 L2 G2 P (Wn) S Cc Y D) ++ [.inl (2, 1, .inr (vp_updL f 0 v.toInt64))])
    | .inr .null => ∃ Wn : WT, w' = (stripW 0 tl hb td tr lf tx rb N B R L G B2 R2 L2 G2 P (Wn) S Cc Y D) ++ [.inl (2, 1, .inr f)] ∧ K (.inl (some (.int 1))) ((stripW 0 tl hb td tr lf tx rb N B R L G B2 R2 L2 G2 P (Wn) S Cc Y D) ++ [.inl (2, 1, .inr f)])
    | _ => False) ?_ ⟨_, rfl⟩ rfl (by decide) (fun w' h => h) ?_ ?_
  · refine ⟨_, _, _, _, _, _, _, _, _, _, _, _, _, _, _, _, _, _, _, _, _, _, n, f, p, x, d, i, rfl, rfl, ho, hpl, hro, hre, hL, hB, hn, ?_⟩
    by_cases c : trvR B.1 P p x d = 0
    · rw [if_pos c] at hK ⊢
      by_cases c2 : 0 ≤ i ∧ i < nI (ledT R (ledW P L R n p d W) x).1
      · rw [if_pos c2] at hK ⊢
        exact ⟨_, rfl, hK⟩
      · rw [if_neg c2] at hK ⊢
        exact ⟨_, rfl, hK⟩
    · rw [if_neg c] at hK ⊢
      exact ⟨W, rfl, hK⟩
  · intro v w' h
    match v, h with
    | .int v, ⟨Wn, hw, hk⟩ =>
      subst hw
      exact ⟨Nat.le_refl 104, hC _ _ _ _ _ _ ⟨(by unfold vp_in; decide), hk⟩⟩
  · intro w' ⟨Wn, hw, hk⟩
    subst hw
    exact ⟨Nat.le_refl 104, hC _ _ _ _ _ _ hk⟩

