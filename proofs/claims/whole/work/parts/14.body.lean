/-! ===== a method out of its run ===== -/
theorem q_sk_mem {pc : Nat} : ∀ {l : List q_I}, ∀ x ∈ q_sk pc l, x ∈ l
  | [], x, h => by simp [q_sk] at h
  | (q, r) :: l, x, h => by
    rw [q_sk] at h
    split at h
    · exact h
    · exact List.mem_cons_of_mem _ (q_sk_mem x h)
theorem q_sk_hd {pc : Nat} : ∀ {l : List q_I} {q : Nat} {r : Instr × Nat × Int32 × Nat} {l' : List q_I}, q_sk pc l = (q, r) :: l' → q = pc
  | [], q, r, l', h => by simp [q_sk] at h
  | (a, b) :: l, q, r, l', h => by
    rw [q_sk] at h
    split at h
    · next hb => cases h; exact Nat.eq_of_beq_eq_true hb
    · exact q_sk_hd h
theorem q_nx_mem {E : q_E} {pc : Nat} {l : List q_I} (hl : ∀ x ∈ l, x ∈ q_code E) : ∀ x ∈ q_nx E pc l, x ∈ q_code E := by
  intro x hx
  unfold q_nx at hx
  split at hx
  · exact q_sk_mem x hx
  · split at hx
    · exact hl x hx
    · exact q_sk_mem x hx
theorem q_nx_hd {E : q_E} {pc : Nat} {l : List q_I} {q : Nat} {r : Instr × Nat × Int32 × Nat} {l' : List q_I} (h : q_nx E pc l = (q, r) :: l') : q = pc := by
  unfold q_nx at h
  split at h
  · exact q_sk_hd h
  · split at h
    · next hb => cases h; exact Nat.eq_of_beq_eq_true hb
    · exact q_sk_hd h
section QV
variable {p : Program} {l : Launch} {e : Env} {R : Room} {s : State} {m : MethodId} {args : Array Value} {below : List Frame} {meth : Method} {c : Code} {own : String} {cc : ByteArray} {D : va_G} {cy : Nat → ClassId} {xd xv : Nat → Nat} {A : Nat → Prop} {n0 : Nat} {ad0 : Nat → Nat} {Q : State → Prop} {E : q_E}
/-- throws: caught here, or gone on with -/
def q_Th (p : Program) (l : Launch) (e : Env) (R : Room) (s : State) (m : MethodId) (args : Array Value) (below : List Frame) (meth : Method) (c : Code) (D : va_G) (cy : Nat → ClassId) (xd : Nat → Nat) (A : Nat → Prop) (n0 : Nat) (ad0 : Nat → Nat) (E : q_E) (Q : State → Prop) (z : q_K) : Prop :=
  (∀ (pc p0 : Nat) (fs : List Value) (lv : q_L) (aw : List q_C) (ca sl : Nat), aw[p0]? = some (.inr (13, fs)) → q_hd pc (q_hs E) = none → z (.inr (.ref p0)) aw → q_X p l e R s m args below meth c D cy xd A n0 ad0 (q_nL E) Q pc p0 lv aw ca sl) ∧
  (∀ (pc p0 h : Nat) (fs : List Value) (lv : q_L) (aw : List q_C) (ca sl : Nat), aw[p0]? = some (.inr (13, fs)) → q_hd pc (q_hs E) = some (h, 13) → q_W p l e R s m args below meth c D cy xd A n0 ad0 (q_nL E) Q h lv [.ref p0] aw ca sl → q_X p l e R s m args below meth c D cy xd A n0 ad0 (q_nL E) Q pc p0 lv aw ca sl)
theorem q_thr_ok {k : q_N} {z : q_K} (hk : ∀ pc lv st aw ca sl, k pc lv st aw ca sl → q_W p l e R s m args below meth c D cy xd A n0 ad0 (q_nL E) Q pc lv st aw ca sl) (hT : q_Th p l e R s m args below meth c D cy xd A n0 ad0 E Q z) :
    ∀ pc v lv aw ca sl, q_thr E pc v lv aw ca sl k z → ∃ p0, v = .ref p0 ∧ q_X p l e R s m args below meth c D cy xd A n0 ad0 (q_nL E) Q pc p0 lv aw ca sl := by
  intro pc v lv aw ca sl h
  unfold q_thr at h
  split at h
  · next p0 =>
    split at h
    · next ci fs hat =>
      rw [q_at_eq] at hat
      split at h
      · exact h.elim
      · next hb =>
        have e1 := Nat.eq_of_beq_eq_true hb
        subst e1
        split at h
        · next hh => exact ⟨p0, rfl, hT.1 pc p0 fs lv aw ca sl hat hh h⟩
        · next h9 cj hh =>
          split at h
          · next hb2 =>
            have e2 := Nat.eq_of_beq_eq_true hb2
            subst e2
            exact ⟨p0, rfl, hT.2 pc p0 h9 fs lv aw ca sl hat hh (hk _ _ _ _ _ _ h)⟩
          · exact h.elim
    · exact h.elim
  · exact h.elim
theorem q_weak {pc : Nat} {lv lv' : q_L} {st : List Value} {aw : List q_C} {ca sl : Nat} (hm : ∀ q ∈ lv', q ∈ lv) (h : q_W p l e R s m args below meth c D cy xd A n0 ad0 (q_nL E) Q pc lv' st aw ca sl) : q_W p l e R s m args below meth c D cy xd A n0 ad0 (q_nL E) Q pc lv st aw ca sl := by
  intro hca hsl ad ls H locs hn0 had hlv hP hD hS
  refine h hca hsl ad ls H locs hn0 had ⟨hlv.1, hlv.2.1, fun q hq => ?_⟩ hP hD hS
  obtain ⟨q0, h0, rfl⟩ := List.mem_map.mp hq
  exact hlv.2.2 _ (List.mem_map.mpr ⟨q0, hm q0 h0, rfl⟩)
theorem q_run_ok (hC : q_Cx p l s m args meth c R own cc D cy xd xv A E) {z : q_K} (hT : q_Th p l e R s m args below meth c D cy xd A n0 ad0 E Q z) (hr : q_Rt p l e R s m args below meth c cc D cy xd A n0 ad0 E Q z) :
    ∀ (n : Nat) (L : List q_I) (pc : Nat) (r : Instr × Nat × Int32 × Nat) (L' : List q_I) (lv : q_L) (st : List Value) (aw : List q_C) (ca sl : Nat), (∀ x ∈ L, x ∈ q_code E) → L = (pc, r) :: L' → q_run E (q_W p l e R s m args below meth c D cy xd A n0 ad0 (q_nL E) Q) z n L lv st aw ca sl → q_W p l e R s m args below meth c D cy xd A n0 ad0 (q_nL E) Q pc lv st aw ca sl := by
  intro n
  induction n with
  | zero => intro L pc r L' lv st aw ca sl _ _ h; exact (h : False).elim
  | succ n ih =>
    intro L pc r L' lv st aw ca sl hL hLe h
    subst hLe
    obtain ⟨i, len, cn, t⟩ := r
    have hok : q_okI cc (pc, i, len, cn, t) = true := List.all_eq_true.mp hC.2.2.2.2.2.2.2.2.2.2.2.1 _ (hL _ List.mem_cons_self)
    have hk : ∀ pc' lv' st' aw' ca' sl', (match q_lk pc' (q_cuts E) with
        | some live => q_pk lv' live (fun lv'' => q_W p l e R s m args below meth c D cy xd A n0 ad0 (q_nL E) Q pc' lv'' st' aw' ca' sl')
        | none => q_run E (q_W p l e R s m args below meth c D cy xd A n0 ad0 (q_nL E) Q) z n (q_nx E pc' L') lv' st' aw' ca' sl') → q_W p l e R s m args below meth c D cy xd A n0 ad0 (q_nL E) Q pc' lv' st' aw' ca' sl' := by
      intro pc' lv' st' aw' ca' sl' h
      split at h
      · obtain ⟨l', h1, h2⟩ := q_pk_ok _ _ _ h
        exact q_weak h2 h1
      · cases hx : q_nx E pc' L' with
        | nil =>
          rw [hx] at h
          cases n with
          | zero => exact (h : False).elim
          | succ n => exact (h : False).elim
        | cons a L2 =>
          obtain ⟨pc2, r2⟩ := a
          have e1 := q_nx_hd hx
          subst e1
          exact ih _ _ r2 L2 lv' st' aw' ca' sl' (q_nx_mem (fun x hx => hL x (List.mem_cons_of_mem _ hx))) hx h
    exact q_step_ok hC hk (q_thr_ok hk hT) hr hok h
theorem q_go_ok (hC : q_Cx p l s m args meth c R own cc D cy xd xv A E) {z : q_K} (hT : q_Th p l e R s m args below meth c D cy xd A n0 ad0 E Q z) (hr : q_Rt p l e R s m args below meth c cc D cy xd A n0 ad0 E Q z) :
    ∀ pc lv st aw ca sl, q_go E (q_W p l e R s m args below meth c D cy xd A n0 ad0 (q_nL E) Q) z pc lv st aw ca sl → q_W p l e R s m args below meth c D cy xd A n0 ad0 (q_nL E) Q pc lv st aw ca sl := by
  intro pc lv st aw ca sl h
  unfold q_go at h
  cases hx : q_sk pc (q_code E) with
  | nil => rw [hx] at h; exact (h : False).elim
  | cons a L2 =>
    obtain ⟨pc2, r2⟩ := a
    have e1 := q_sk_hd hx
    subst e1
    exact q_run_ok hC hT hr _ _ _ r2 L2 lv st aw ca sl (fun x hx => q_sk_mem x hx) hx h
end QV
