/-! ===== the law: what its walk may use ===== -/
def lwOut (o : q_O) (f : Value → Prop) : Prop := match o with
  | .inl (some (.int x)) => f (.int x)
  | .inl (some (.long x)) => f (.long x)
  | _ => False
def lwS (l : Launch) (C : q_N) : Prop := ∀ (idx pc n d mL : Nat) (fd : List (Nat ⊕ (Nat × Nat))) (sp : q_P), q_CO l RL idx (n, 11, d, mL, 0, 0, fd, sp) → decode cL_law pc = .ok (.invokevirtual idx, 3) → d ≤ 19 → mL ≤ 45 →
  ∀ (w tail : List q_C) (lv : q_L) (as rest : List Value) (ca sl : Nat), as.length + 1 = n → as.map (q_svT 0 none) = as → w.length = 103 → (∃ fs, w[0]? = some (.inr (11, fs))) → q_cats rest ≤ 8 →
    sp (.ref 0 :: as) w (fun o w' => lwOut o (fun v => (w'.length = 103 ∧ q_vw 103 w' = true) ∧ C (pc + 3) lv (v :: rest) (w' ++ tail) ca sl)) → C pc lv (as.reverse ++ .ref 0 :: rest) (w ++ tail) ca sl
def lwM (l : Launch) (C : q_N) : Prop := ∀ (idx pc n d mL mc ms : Nat) (fd : List (Nat ⊕ (Nat × Nat))) (sp : q_P), q_CO l RL idx (n, 14, d, mL, mc, ms, fd, sp) → decode cL_law pc = .ok (.invokevirtual idx, 3) → d ≤ 19 → mL ≤ 45 →
  ∀ (T : Option Nat) (pre w tail : List q_C) (lv : q_L) (as rest : List Value) (ca sl : Nat), as.length + 1 = n → as.map (q_svT 104 T) = as → pre.length = 104 → (∃ fs, w[0]? = some (.inr (14, fs))) → q_cats rest ≤ 8 → ca + mc ≤ 601024 → sl + ms ≤ 7293034 →
    sp (.ref 0 :: as) w (fun o w' => lwOut o (fun v => (w'.length = w.length ∨ (w.length ≤ w'.length ∧ tail = [] ∧ T = none ∧ q_vl (104 + w.length) lv = true ∧ q_vs (104 + w.length) rest = true ∧ q_vw (104 + w.length) pre = true)) ∧ q_vw w'.length w' = true ∧ C (pc + 3) lv (v :: rest) (pre ++ w'.map (q_sftT 104 T) ++ tail) (ca + mc) (sl + ms))) → C pc lv (as.reverse ++ .ref 104 :: rest) (pre ++ w.map (q_sftT 104 T) ++ tail) ca sl
def lwL (C : q_N) : Prop := ∀ (w tail : List q_C) (lv : q_L) (p x d i : Int32) (ca sl : Nat), w.length = 104 → ca + 1 ≤ 601024 → sl + 6 ≤ 7293034 →
    spL_led [.ref 0, .int p, .int x, .int d, .int i, .ref 103] w (fun o w' => lwOut o (fun v => (w'.length = 104 ∧ q_vw 104 w' = true) ∧ C 1613 lv [v] (w' ++ tail) (ca + 1) (sl + 6))) → C 1610 lv [.ref 103, .int i, .int d, .int x, .int p, .ref 0] (w ++ tail) ca sl
def lwN (C : q_N) : Prop := ∀ (σ : List Nat) (pc : Nat) (lv lv2 : q_L) (st : List Value) (aw : List q_C) (ca sl : Nat), q_nd σ = true → (∀ ad xd : Nat → Nat, lv2.map (q_cp (q_ad ad σ) (q_xd ad xd σ aw)) = lv.map (q_cp ad xd)) → (∀ ad xd : Nat → Nat, st.map (q_cv (q_ad ad σ) (q_xd ad xd σ aw)) = st.map (q_cv ad xd)) →
    q_lw aw σ σ 0 (fun w => C pc lv2 st w ca sl) → C pc lv st aw ca sl
def lwR (l : Launch) (L : Nat) (xs : Nat → Int32) (z : q_K) (C : q_N) : Prop := lwGo L xs z C ∧ lwS l C ∧ lwM l C ∧ lwL C ∧ lwN C
theorem q_Cx_xd {p : Program} {l : Launch} {s : State} {m : MethodId} {args : Array Value} {meth : Method} {c : Code} {R : Room} {own : String} {cc : ByteArray} {D : va_G} {cy : Nat → ClassId} {xd xd' xv : Nat → Nat} {A : Nat → Prop} {E : q_E} (h : q_Cx p l s m args meth c R own cc D cy xd xv A E) (he : ∀ e, e < 100 → xd' e = xd e) (hc : ∀ x ∈ q_ct E, x.1 < 100) : q_Cx p l s m args meth c R own cc D cy xd' xv A E := by
  obtain ⟨h1, h2, h3, h4, h5, h6, h7, h8, h9, h10⟩ := h
  exact ⟨h1, h2, h3, h4, h5, h6, h7, fun x hx => by rw [he x.1 (hc x hx)]; exact h8 x hx, h9.xd he, h10⟩
theorem q_lval_mono {σ : List Nat} {i j : Nat} {v : Value} {k k' : Value → Prop} (h : ∀ v, k v → k' v) (hh : q_lval σ i j v k) : q_lval σ i j v k' := by
  cases v with
  | ref p =>
    simp only [q_lval] at hh ⊢
    cases hx : q_ix p σ q_ns with
    | some n => rw [hx] at hh; exact h _ hh
    | none => rw [hx] at hh; exact h _ hh
  | retAddr e =>
    simp only [q_lval] at hh ⊢
    cases hx : Nat.ble 100 e with
    | true => rw [hx] at hh; exact h _ hh
    | false => rw [hx] at hh; exact h _ hh
  | _ => exact h _ hh
theorem q_lf_mono {σ : List Nat} {i : Nat} : ∀ (l : List Value) (j : Nat) (k k' : List Value → Prop), (∀ x, k x → k' x) → q_lf σ i l j k → q_lf σ i l j k'
  | [], j, k, k', h, hh => h _ hh
  | v :: l, j, k, k', h, hh => by
    rw [q_lf] at hh ⊢
    cases hx : Nat.ble 100 j with
    | true => rw [hx] at hh; exact hh.elim
    | false =>
      rw [hx] at hh
      exact q_lval_mono (fun v' h1 => q_lf_mono l (j + 1) _ _ (fun x h2 => h _ h2) h1) hh
theorem q_lw_mono {aw : List q_C} {σ0 : List Nat} : ∀ (σ : List Nat) (i : Nat) (k k' : List q_C → Prop), (∀ x, k x → k' x) → q_lw aw σ0 σ i k → q_lw aw σ0 σ i k'
  | [], i, k, k', h, hh => h _ hh
  | p :: σ, i, k, k', h, hh => by
    rw [q_lw] at hh ⊢
    cases hx : q_at aw p with
    | none => rw [hx] at hh; exact hh.elim
    | some c =>
      rw [hx] at hh
      rcases c with a | ⟨ci, fs⟩
      · exact q_lw_mono σ (i + 1) _ _ (fun x h2 => h _ h2) hh
      · exact q_lf_mono fs 0 _ _ (fun fs' h1 => q_lw_mono σ (i + 1) _ _ (fun x h2 => h _ h2) h1) hh
theorem q_svT0 (v : Value) : q_svT 0 none v = v := by cases v <;> simp [q_svT]
theorem q_sftT0 (c : q_C) : q_sftT 0 none c = c := by
  rcases c with a | ⟨ci, fs⟩
  · rfl
  · have : fs.map (q_svT 0 none) = fs := by
      have h : ∀ l : List Value, l.map (q_svT 0 none) = l := fun l => by
        induction l with
        | nil => rfl
        | cons a l ih => rw [List.map_cons, q_svT0, ih]
      exact h fs
    simp only [q_sftT, this]
theorem q_sfts0 (w : List q_C) : w.map (q_sftT 0 none) = w := by
  induction w with
  | nil => rfl
  | cons a l ih => rw [List.map_cons, q_sftT0, ih]
section LWC
variable {p : Program} {l : Launch} {e : Env} {R : Room} {s : State} {m : MethodId} {args : Array Value} {below : List Frame} {meth : Method} {c : Code} {D : va_G} {cy : Nat → ClassId} {xd xv : Nat → Nat} {A : Nat → Prop} {ad0 : Nat → Nat} {Q : State → Prop} {L : Nat} {xs : Nat → Int32}
def lwC (p : Program) (l : Launch) (e : Env) (R : Room) (s : State) (m : MethodId) (args : Array Value) (below : List Frame) (meth : Method) (c : Code) (D : va_G) (cy : Nat → ClassId) (xd : Nat → Nat) (A : Nat → Prop) (ad0 : Nat → Nat) (Q : State → Prop) : q_N := fun pc lv st aw ca sl =>
  ∀ xd' : Nat → Nat, (∀ e, e < 100 → xd' e = xd e) → q_W p l e R s m args below meth c D cy xd' A 0 ad0 7 Q pc lv st aw ca sl
theorem lwR_ok {z : q_K} (hcx : ∀ (t : List q_I) (cuts : List (Nat × List Nat)), t.all (q_okI cL_law) = true → q_Cx p l s m args meth c R RL cL_law D cy xd xv A (EL t cuts L xs)) (hT : ∀ (xd' : Nat → Nat) (t : List q_I) (cuts : List (Nat × List Nat)), q_Th p l e R s m args below meth c D cy xd' A 0 ad0 (EL t cuts L xs) Q z) (hr : ∀ (xd' : Nat → Nat) (t : List q_I) (cuts : List (Nat × List Nat)), q_Rt p l e R s m args below meth c cL_law D cy xd' A 0 ad0 (EL t cuts L xs) Q z) (hl : l.stackTraces = false) :
    lwR l L xs z (lwC p l e R s m args below meth c D cy xd A ad0 Q) := by
  have hct : ∀ (t : List q_I) (cuts : List (Nat × List Nat)), ∀ x ∈ q_ct (EL t cuts L xs), x.1 < 100 := fun t cuts x hx => by
    have : x = (90, L, xs) := List.mem_singleton.mp hx
    rw [this]; exact (by decide : 90 < 100)
  have cx : ∀ (xd' : Nat → Nat), (∀ e, e < 100 → xd' e = xd e) → ∀ (t : List q_I) (cuts : List (Nat × List Nat)), t.all (q_okI cL_law) = true → q_Cx p l s m args meth c R RL cL_law D cy xd' xv A (EL t cuts L xs) := fun xd' he t cuts ht => q_Cx_xd (hcx t cuts ht) he (hct t cuts)
  obtain ⟨-, -, -, -, -, hK, hA, -, -, -, ⟨-, -, hRC, hRS⟩, -⟩ := hcx [] [] rfl
  have hRC : R.cells = 601024 := hRC
  have hRS : R.slots = 7293034 := hRS
  refine ⟨fun t cuts ht pc lv st aw ca sl h xd' he => ?_, ?_, ?_, ?_, ?_⟩
  · exact q_go_okG (cx xd' he t cuts ht) (hT xd' t cuts) (hr xd' t cuts) (fun pc lv st aw ca sl h => h xd' he) pc lv st aw ca sl h
  · intro idx pc n d mL fd sp hco hd h19 h45 w tail lv as rest ca sl hn has hw h0 hcat hsp xd' he hca hsl
    have hCx := cx xd' he [] [] rfl
    have RH := q_RV (e := e) (below := below) (pc := pc) hCx hco hd (show d + 1 ≤ 20 by omega) h45 (Or.inl (by decide))
    obtain ⟨fs, h0⟩ := h0
    have hrc : q_rc 11 ((Value.ref 0 :: as).map (q_svT 0 none)) ([] ++ w.map (q_sftT 0 none) ++ tail) = true := by
      rw [q_sfts0, List.map_cons, q_svT0, List.nil_append]
      show (match q_at (w ++ tail) 0 with
        | some (.inr (ci, _)) => Nat.beq ci 11
        | _ => false) = true
      rw [q_at_eq, List.getElem?_append_left (by omega), h0]
      rfl
    have := blk_callT (o := 0) (ad0 := ad0) (Q := Q) (lv := lv) (ca := ca) (sl := sl) RH hK hA hCx.2.2.2.2.2.2.2.2.1 none (pre := []) (w := w) (tail := tail) (as := .ref 0 :: as) _ rfl hn hrc rfl hcat hsp hca hsl (fun v w' h => h) (fun r w' h => by
      match r, h with
      | some (.int x), ⟨⟨h1, h2⟩, h3⟩ =>
        refine ⟨Or.inl (by rw [h1, hw]), by rw [h1]; exact h2, rfl, ?_⟩
        rw [q_sfts0]
        exact h3 xd' he
      | some (.long x), ⟨⟨h1, h2⟩, h3⟩ =>
        refine ⟨Or.inl (by rw [h1, hw]), by rw [h1]; exact h2, rfl, ?_⟩
        rw [q_sfts0]
        exact h3 xd' he)
    rw [q_sfts0, List.map_cons, has, List.reverse_cons, List.append_assoc] at this
    exact this hca hsl
  · intro idx pc n d mL mc ms fd sp hco hd h19 h45 T pre w tail lv as rest ca sl hn has hpre h0 hcat hca0 hsl0 hsp xd' he hca hsl
    have hCx := cx xd' he [] [] rfl
    have RH := q_RV (e := e) (below := below) (pc := pc) hCx hco hd (show d + 1 ≤ 20 by omega) h45 (Or.inl (by decide))
    obtain ⟨fs, h0⟩ := h0
    have hrc : q_rc 14 ((Value.ref 0 :: as).map (q_svT 104 T)) (pre ++ w.map (q_sftT 104 T) ++ tail) = true := by
      show (match q_at (pre ++ w.map (q_sftT 104 T) ++ tail) (104 + 0) with
        | some (.inr (ci, _)) => Nat.beq ci 14
        | _ => false) = true
      rw [q_at_eq, blk_atT hpre h0]
      rfl
    have := blk_callT (o := 104) (ad0 := ad0) (Q := Q) (lv := lv) (ca := ca) (sl := sl) RH hK hA hCx.2.2.2.2.2.2.2.2.1 T (pre := pre) (w := w) (tail := tail) (as := .ref 0 :: as) _ hpre hn hrc rfl hcat hsp (by rw [hRC]; exact hca0) (by rw [hRS]; exact hsl0) (fun v w' h => h) (fun r w' h => by
      match r, h with
      | some (.int x), ⟨h1, h2, h3⟩ => exact ⟨h1, h2, rfl, h3 xd' he⟩
      | some (.long x), ⟨h1, h2, h3⟩ => exact ⟨h1, h2, rfl, h3 xd' he⟩)
    rw [List.map_cons, has, List.reverse_cons, List.append_assoc] at this
    exact this hca hsl
  · intro w tail lv a1 a2 a3 a4 ca sl hw hca0 hsl0 hsp xd' he hca hsl
    have hCx := cx xd' he [] [] rfl
    have RH := q_RS2 (e := e) (below := below) (pc := 1610) hCx (coL_163 l hl) (by decide +kernel) (show 7 + 1 ≤ 20 by decide) (by decide) rfl
    have := blk_callT (o := 0) (ad0 := ad0) (Q := Q) (lv := lv) (ca := ca) (sl := sl) RH hK hA hCx.2.2.2.2.2.2.2.2.1 none (pre := []) (w := w) (tail := tail) (rest := []) (as := [.ref 0, .int a1, .int a2, .int a3, .int a4, .ref 103]) _ rfl rfl rfl rfl (by decide) hsp (by rw [hRC]; exact hca0) (by rw [hRS]; exact hsl0) (fun v w' h => h) (fun r w' h => by
      match r, h with
      | some (.int x), ⟨⟨h1, h2⟩, h3⟩ =>
        refine ⟨Or.inl (by rw [h1, hw]), by rw [h1]; exact h2, rfl, ?_⟩
        rw [q_sfts0]
        exact h3 xd' he
      | some (.long x), ⟨⟨h1, h2⟩, h3⟩ =>
        refine ⟨Or.inl (by rw [h1, hw]), by rw [h1]; exact h2, rfl, ?_⟩
        rw [q_sfts0]
        exact h3 xd' he)
    rw [q_sfts0] at this
    exact this hca hsl
  · intro σ pc lv lv2 st aw ca sl hnd h1 h2 h xd' he
    exact renumT hnd (fun ad => h1 ad xd') (fun ad => h2 ad xd') (q_lw_mono σ 0 _ _ (fun w h xd2 he2 => h xd2 (fun e h3 => by rw [he2 e h3, he e h3])) h)
end LWC

