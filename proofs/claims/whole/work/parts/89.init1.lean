/-! ===== the making of a Stop: Throwable's own start, with the statics that it reads ===== -/
def t_thr : List q_I := [(0, .aload_n 0, 1, 0, 0), (1, .invokespecial 1, 3, 0, 0), (4, .aload_n 0, 1, 0, 0), (5, .aload_n 0, 1, 0, 0), (6, .putfield 7, 3, 0, 0), (9, .aload_n 0, 1, 0, 0), (10, .getstatic 13, 3, 0, 0), (13, .putfield 17, 3, 0, 0), (16, .aload_n 0, 1, 0, 0), (17, .getstatic 20, 3, 0, 0), (20, .putfield 24, 3, 0, 0), (23, .iload 4, 2, 0, 0), (25, .ifCond .eq 11, 3, 0, 36), (28, .aload_n 0, 1, 0, 0), (29, .invokevirtual 27, 3, 0, 0), (32, .pop, 1, 0, 0), (33, .goto 8, 3, 0, 41), (36, .aload_n 0, 1, 0, 0), (37, .aconst_null, 1, 0, 0), (38, .putfield 17, 3, 0, 0), (41, .aload_n 0, 1, 0, 0), (42, .aload_n 1, 1, 0, 0), (43, .putfield 31, 3, 0, 0), (46, .aload_n 0, 1, 0, 0), (47, .aload_n 2, 1, 0, 0), (48, .putfield 7, 3, 0, 0), (51, .iload_n 3, 1, 0, 0), (52, .ifCond .ne 8, 3, 0, 60), (55, .aload_n 0, 1, 0, 0), (56, .aconst_null, 1, 0, 0), (57, .putfield 24, 3, 0, 0), (60, .return_, 1, 0, 0)]
theorem t_thr_ok : (t_thr.all (q_okI prog_24_method_5_code)) = true := by decide +kernel
def y_thr : MethodName := ⟨"java/lang/Throwable", "<init>", "(Ljava/lang/String;Ljava/lang/Throwable;ZZ)V"⟩
def stopC (kd pl : Int32) : List q_C := [.inr (13, [.null, .null, .null, .null, .null, .int 0, .int kd, .int pl])]
def sp_thr : q_P := fun a w K => ∃ (kd pl : Int32), w = stopC kd pl ∧ a = [.ref 0, .null, .null, .int 0, .int 0] ∧ K (.inl none) (stopC kd pl)
def E_thr : q_E := (t_thr, [(6, [0, 1, 2, 3, 4]), (10, [0, 1, 2, 3, 4]), (13, [0, 1, 2, 3, 4]), (17, [0, 1, 2, 3, 4]), (20, [0, 1, 2, 3, 4]), (38, [0, 1, 2, 3, 4]), (43, [0, 1, 2, 3, 4]), (48, [0, 1, 2, 3, 4]), (57, [0, 1, 2, 3, 4])], 5, [], [], [], [], [], [], [], 1, 0, 0, none, [], [], 1, 0)
theorem ok_thr (l : Launch) : q_Eok l "java/lang/Throwable" prog_24_method_5_code E_thr := ⟨t_thr_ok, q_nil, q_nil, q_nil, q_nil, q_nil, q_nil, q_nil, fun _ => q_G_i 1193 (by decide +kernel) rfl⟩
def noTk : Value → Prop
  | .retAddr _ => False
  | _ => True
theorem q_cv_no {ad xd xd' : Nat → Nat} {v : Value} (h : noTk v) : q_cv ad xd' v = q_cv ad xd v := by
  cases v <;> first | rfl | exact h.elim
def putR (C : q_N) : Prop := ∀ pc idx j lv (v : Value) fs ca sl, decode prog_24_method_5_code pc = .ok (.putfield idx, 3) → Cond.fieldLink "java/lang/Throwable" idx (TX13 j).1 (TX13 j).2.1 (TX13 j).2.2.1 ∈ q_G → j < 5 → (v = .null ∨ v = .ref 0 ∨ v = .retAddr 100 ∨ v = .retAddr 101) → j < fs.length → C (pc + 3) lv [] [.inr (13, fs.set j v)] ca sl → C pc lv [v, .ref 0] [.inr (13, fs)] ca sl
def gsR (C : q_N) (a b : Nat) : Prop := ∀ lv st aw ca sl, (∀ v, v = .null ∨ v = .ref 0 ∨ v = .retAddr 100 ∨ v = .retAddr 101 → C b lv (v :: st) aw ca sl) → C a lv st aw ca sl
set_option maxRecDepth 100000 in
set_option maxHeartbeats 400000 in
theorem thr_body {C : q_N} {K : q_K} (kd pl : Int32) (hgo : ∀ pc lv st aw ca sl, q_go E_thr C K pc lv st aw ca sl → C pc lv st aw ca sl) (hK : K (.inl none) (stopC kd pl)) (put : putR C) (gs1 : gsR C 10 13) (gs2 : gsR C 17 20) : C 0 (lv_args 0 [.ref 0, .null, .null, .int 0, .int 0]) [] (stopC kd pl) 0 0 := by
  refine hgo _ _ _ _ _ _ ?_
  refine put 6 7 0 _ _ _ _ _ (by decide +kernel) (q_G_i 1223 (by decide +kernel) rfl) (by omega) (Or.inr (Or.inl rfl)) (by show 0 < 8; omega) (hgo _ _ _ _ _ _ ?_)
  refine gs1 _ _ _ _ _ (fun v1 hv1 => put 13 17 1 _ _ _ _ _ (by decide +kernel) (q_G_i 1224 (by decide +kernel) rfl) (by omega) hv1 (by show 1 < 8; omega) (hgo _ _ _ _ _ _ ?_))
  refine gs2 _ _ _ _ _ (fun v2 hv2 => put 20 24 2 _ _ _ _ _ (by decide +kernel) (q_G_i 1225 (by decide +kernel) rfl) (by omega) hv2 (by show 2 < 8; omega) (hgo _ _ _ _ _ _ ?_))
  refine And.intro (fun _ => ?_) (fun z => absurd rfl z)
  refine put 38 17 1 _ _ _ _ _ (by decide +kernel) (q_G_i 1224 (by decide +kernel) rfl) (by omega) (Or.inl rfl) (by show 1 < 8; omega) (hgo _ _ _ _ _ _ ?_)
  refine put 43 31 3 _ _ _ _ _ (by decide +kernel) (q_G_i 1222 (by decide +kernel) rfl) (by omega) (Or.inl rfl) (by show 3 < 8; omega) (hgo _ _ _ _ _ _ ?_)
  refine put 48 7 0 _ _ _ _ _ (by decide +kernel) (q_G_i 1223 (by decide +kernel) rfl) (by omega) (Or.inl rfl) (by show 0 < 8; omega) (hgo _ _ _ _ _ _ ?_)
  refine And.intro (fun z => absurd rfl z) (fun _ => ?_)
  refine put 57 24 2 _ _ _ _ _ (by decide +kernel) (q_G_i 1225 (by decide +kernel) rfl) (by omega) (Or.inl rfl) (by show 2 < 8; omega) (hgo _ _ _ _ _ _ ?_)
  exact hK
set_option maxRecDepth 100000 in
set_option maxHeartbeats 400000 in
theorem ct_thr (l : Launch) : q_CT l y_thr (.code y_thr prog_24_method_5_code 5 none) 1 0 0 sp_thr := by
  intro D cy ad xd xv a w K sz hsp
  obtain ⟨kd, pl, rfl, rfl, hK0⟩ := hsp
  refine qx_ofW (cc := prog_24_method_5_code) (maxL := 5) (ret := none) (by decide +kernel) rfl ?_
  intro p e s m args below meth c s₁ B hml hno hv
  obtain ⟨rfl, hsz, hP, hK, hD0, hamb⟩ := hv
  have hts0 := atoms_spec (ws := Cond.code y_thr prog_24_method_5_code 5 none :: q_G) B.pre
  have hts : ∀ w ∈ q_G, w.before ([Value.ref 0, .null, .null, .int 0, .int 0].map (q_cv ad xd)).toArray s = true := fun w hw => hts0 w (List.mem_cons_of_mem _ hw)
  have hown : s.vm.findClass y_thr.cls = some m.cls := findClass_of_methodNamed B.named
  subst hsz
  obtain ⟨t1, ht1⟩ : ∃ t : Nat, va_Z Bundle.tN "UNASSIGNED_STACK" Bundle.steD .null (va_A (q_cw cy ad xd 0 (stopC kd pl)) s.heap.size) s s.heap ∨ va_Z Bundle.tN "UNASSIGNED_STACK" Bundle.steD (.ref t) (va_A (q_cw cy ad xd 0 (stopC kd pl)) s.heap.size) s s.heap := by
    rcases hamb.2.2.2.2.2.1.1 with z | ⟨t, z⟩
    · exact ⟨0, Or.inl z⟩
    · exact ⟨t, Or.inr z⟩
  obtain ⟨t2, ht2⟩ : ∃ t : Nat, va_Z Bundle.tN "SUPPRESSED_SENTINEL" Bundle.listD .null (va_A (q_cw cy ad xd 0 (stopC kd pl)) s.heap.size) s s.heap ∨ va_Z Bundle.tN "SUPPRESSED_SENTINEL" Bundle.listD (.ref t) (va_A (q_cw cy ad xd 0 (stopC kd pl)) s.heap.size) s s.heap := by
    rcases hamb.2.2.2.2.2.2.1.1 with z | ⟨t, z⟩
    · exact ⟨0, Or.inl z⟩
    · exact ⟨t, Or.inr z⟩
  let xd' : Nat → Nat := fun e => if e = 100 then t1 else if e = 101 then t2 else xd e
  have hxd : ∀ e, e < 100 → xd' e = xd e := fun e he => by show (if e = 100 then t1 else if e = 101 then t2 else xd e) = xd e; rw [if_neg (by omega), if_neg (by omega)]
  have hD := hD0.self (sz := s.heap.size)
  have hA : ∀ q : Nat, s.heap.size ≤ q → va_A (q_cw cy ad xd 0 (stopC kd pl)) s.heap.size q := fun q h => Or.inr h
  have hS : va_S (va_A (q_cw cy ad xd 0 (stopC kd pl)) s.heap.size) s.heap s.heap [] := va_S.rf
  have hcx : q_Cx p l s m ([Value.ref 0, .null, .null, .int 0, .int 0].map (q_cv ad xd)).toArray meth c (q_rm 1 0 0) "java/lang/Throwable" prog_24_method_5_code D cy xd' xv (va_A (q_cw cy ad xd 0 (stopC kd pl)) s.heap.size) E_thr :=
    ⟨B.exec, B.bytes, hml, hown, hts, hK, hA, q_nil, hamb.xd hxd, fun ci hci => (by cases hci), ⟨Nat.le_refl _, Nat.le_refl _, rfl, rfl⟩, ok_thr l⟩
  have hr : q_Rt p l e (q_rm 1 0 0) s m ([Value.ref 0, .null, .null, .int 0, .int 0].map (q_cv ad xd)).toArray below meth c prog_24_method_5_code D cy xd' (va_A (q_cw cy ad xd 0 (stopC kd pl)) s.heap.size) 1 ad E_thr (qx_MQ below (q_Qc D cy ad xd 1 K (va_A (q_cw cy ad xd 0 (stopC kd pl)) s.heap.size)) (q_XC D cy ad xd 1 K (va_A (q_cw cy ad xd 0 (stopC kd pl)) s.heap.size)) ([Value.ref 0, .null, .null, .int 0, .int 0].map (q_cv ad xd)).toArray s 0 0 (va_A (q_cw cy ad xd 0 (stopC kd pl)) s.heap.size)) (fun o w => o = .inl none ∧ w = stopC kd pl) := by
    refine ⟨fun pc lv x ty aw ca sl hd hrt => (by cases hrt), fun pc lv x aw ca sl hd hrt => (by cases hrt), fun pc lv x t aw ca sl hd hrt => (by cases hrt), fun pc lv aw ca sl hd hrt hz => ?_⟩
    obtain ⟨-, rfl⟩ := hz
    intro hca hsl ad2 ls H locs hn0 had hlv hP hD hS
    refine W.widen (k := 0) (n := 0) hca hsl (qx_ret (W.vret B.exec B.bytes B.returns (fun t ht hWt => ?_) hS.2.2 hd))
    exact ⟨⟨none, stopC kd pl, ad2, rfl, hK0, had, by rw [ht]; exact hP, hD⟩, hS.F ht⟩
  have hT : q_Th p l e (q_rm 1 0 0) s m ([Value.ref 0, .null, .null, .int 0, .int 0].map (q_cv ad xd)).toArray below meth c D cy xd' (va_A (q_cw cy ad xd 0 (stopC kd pl)) s.heap.size) 1 ad E_thr (qx_MQ below (q_Qc D cy ad xd 1 K (va_A (q_cw cy ad xd 0 (stopC kd pl)) s.heap.size)) (q_XC D cy ad xd 1 K (va_A (q_cw cy ad xd 0 (stopC kd pl)) s.heap.size)) ([Value.ref 0, .null, .null, .int 0, .int 0].map (q_cv ad xd)).toArray s 0 0 (va_A (q_cw cy ad xd 0 (stopC kd pl)) s.heap.size)) (fun o w => o = .inl none ∧ w = stopC kd pl) :=
    ⟨fun pc p0 fs lv aw ca sl _ _ hz => (by obtain ⟨h1, -⟩ := hz; cases h1), fun pc p0 h fs lv aw ca sl _ hh => by cases hh⟩
  have hgo := q_go_ok (e := e) (below := below) (n0 := 1) (ad0 := ad) hcx hT hr
  have h9 := thr_body kd pl hgo ⟨rfl, rfl⟩ (by
    intro pc idx j lv v fs ca sl hd hlk hj hv hjl hk
    intro hca hsl ad2 ls H locs hn0 had hlv hP hD hS
    obtain ⟨cw1, cw2, cw3⟩ := q_cls 13 _ rfl
    have hf : ∀ i : Fin 5, (TX13 i.val).2.2.2 = false := by decide
    have hv2 : narrow (q_fty 13 j) (q_cv ad2 xd' v) = q_cv ad2 xd' v ∧ fits (q_fty 13 j) (q_cv ad2 xd' v) = true := by
      have h5 : j = 0 ∨ j = 1 ∨ j = 2 ∨ j = 3 ∨ j = 4 := by omega
      rcases h5 with rfl | rfl | rfl | rfl | rfl <;> rcases hv with rfl | rfl | rfl | rfl <;> exact ⟨rfl, rfl⟩
    exact va_put (ref := (TX13 j).1) (ty := q_fty 13 j) B.exec B.bytes hts cw1 (q_fty 13) cw2 cw3 hown hK hP hD hS 0 (q_cell (cy := cy) (ad := ad2) (xd := xd') (aw := [.inr (13, fs)]) (p := 0) rfl) rfl j (show j < 8 by omega) (hts _ hlk) (fun _ h9 => h9) (hf ⟨j, hj⟩) (cw2 j (show j < 8 by omega)) hv2.1 hv2.2 (by rw [List.length_map]; exact hjl) hd (fun H1 locs1 hP1 hD1 hS1 => by
      rw [q_setF] at hP1 hD1
      exact hk hca hsl ad2 ls H1 locs1 hn0 had hlv (by rw [show ([.inr (13, fs.set j v)] : List q_C) = [.inr (13, fs)].set 0 (.inr (13, fs.set j v)) from rfl, ← q_cw_set]; exact hP1) (by rw [show ([.inr (13, fs.set j v)] : List q_C) = [.inr (13, fs)].set 0 (.inr (13, fs.set j v)) from rfl, ← q_cw_set]; exact hD1) hS1)) (by
    intro lv st aw ca sl hk
    rcases ht1 with z | z
    · have h9 := hk .null (Or.inl rfl)
      intro hca hsl ad2 ls H locs hn0 had hlv hP hD hS
      exact va_gets (C := Bundle.tN) (n := "UNASSIGNED_STACK") (d := Bundle.steD) (ref := Bundle.tN) (index := 13) B.exec B.bytes z hS hown (hts _ (q_G_i 1194 (by decide +kernel) rfl)) (fun _ h9 => h9) (by decide +kernel) (h9 hca hsl ad2 ls H locs hn0 had hlv hP hD hS)
    · have h9 := hk (.retAddr 100) (Or.inr (Or.inr (Or.inl rfl)))
      intro hca hsl ad2 ls H locs hn0 had hlv hP hD hS
      exact va_gets (C := Bundle.tN) (n := "UNASSIGNED_STACK") (d := Bundle.steD) (ref := Bundle.tN) (index := 13) B.exec B.bytes z hS hown (hts _ (q_G_i 1194 (by decide +kernel) rfl)) (fun _ h9 => h9) (by decide +kernel) (h9 hca hsl ad2 ls H locs hn0 had hlv hP hD hS)) (by
    intro lv st aw ca sl hk
    rcases ht2 with z | z
    · have h9 := hk .null (Or.inl rfl)
      intro hca hsl ad2 ls H locs hn0 had hlv hP hD hS
      exact va_gets (C := Bundle.tN) (n := "SUPPRESSED_SENTINEL") (d := Bundle.listD) (ref := Bundle.tN) (index := 20) B.exec B.bytes z hS hown (hts _ (q_G_i 1196 (by decide +kernel) rfl)) (fun _ h9 => h9) (by decide +kernel) (h9 hca hsl ad2 ls H locs hn0 had hlv hP hD hS)
    · have h9 := hk (.retAddr 101) (Or.inr (Or.inr (Or.inr rfl)))
      intro hca hsl ad2 ls H locs hn0 had hlv hP hD hS
      exact va_gets (C := Bundle.tN) (n := "SUPPRESSED_SENTINEL") (d := Bundle.listD) (ref := Bundle.tN) (index := 20) B.exec B.bytes z hS hown (hts _ (q_G_i 1196 (by decide +kernel) rfl)) (fun _ h9 => h9) (by decide +kernel) (h9 hca hsl ad2 ls H locs hn0 had hlv hP hD hS))
  have h8 := h9 (Nat.zero_le _) (Nat.zero_le _) ad
  have hlen : (lg_sl ([Value.ref 0, .null, .null, .int 0, .int 0].map (q_cv ad xd))).length ≤ 5 := Nat.le_refl _
  have hl := lv_entry ([Value.ref 0, .null, .null, .int 0, .int 0].map (q_cv ad xd)) (n := 5) hlen
  rw [lg_entry_eq]
  refine h8 _ s.heap [] (Nat.le_refl _) (fun _ _ => rfl) ?_ hP hD hS
  exact hl
abbrev fd_thr : List (Nat ⊕ (Nat × Nat)) := [.inl 0]
abbrev cs_thr : q_S := (5, 97, 1, 5, 0, 0, fd_thr, sp_thr)

