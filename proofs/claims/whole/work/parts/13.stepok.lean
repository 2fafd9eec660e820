/-! ===== the step theorem ===== -/
section QU
variable {p : Program} {l : Launch} {e : Env} {R : Room} {s : State} {m : MethodId} {args : Array Value} {below : List Frame} {meth : Method} {c : Code} {own : String} {cc : ByteArray} {D : va_G} {cy : Nat → ClassId} {xd xv : Nat → Nat} {A : Nat → Prop} {n0 : Nat} {ad0 : Nat → Nat} {Q : State → Prop} {E : q_E}
set_option maxHeartbeats 8000000 in
set_option maxRecDepth 100000 in
theorem q_step_ok (hC : q_Cx p l s m args meth c R own cc D cy xd xv A E) {k : q_N} {z : q_K}
    (hk : ∀ pc lv st aw ca sl, k pc lv st aw ca sl → q_W p l e R s m args below meth c D cy xd A n0 ad0 (q_nL E) Q pc lv st aw ca sl)
    (ht : ∀ pc v lv aw ca sl, q_thr E pc v lv aw ca sl k z → ∃ p0, v = .ref p0 ∧ q_X p l e R s m args below meth c D cy xd A n0 ad0 (q_nL E) Q pc p0 lv aw ca sl)
    (hr : q_Rt p l e R s m args below meth c cc D cy xd A n0 ad0 E Q z) {pc : Nat} {i : Instr} {len : Nat} {cn : Int32} {t : Nat} (he : q_okI cc (pc, i, len, cn, t) = true)
    {lv : q_L} {st : List Value} {aw : List q_C} {ca sl : Nat} (h : q_step E pc i cn t lv st aw ca sl k z) : q_W p l e R s m args below meth c D cy xd A n0 ad0 (q_nL E) Q pc lv st aw ca sl := by
  have hcx := hC
  obtain ⟨hx, hb, hml, hown, hts, hK, hA, hct, hamb, hini, ⟨hR1, hR2, hRC, hRS⟩, hE1, hE2, hE3, hE4, hE5, hE6, hE7, hE8, hE9⟩ := hC
  simp only [q_okI, Bool.and_eq_true, decide_eq_true_eq] at he
  obtain ⟨hd, hax, hil⟩ := he
  unfold q_step at h
  cases i <;> dsimp only at h <;> try (exact h.elim)
  case iconst n =>
    have hl9 : 1 = len := Nat.eq_of_beq_eq_true hil
    subst hl9
    intro hca hsl ad ls H locs hn0 had hlv hP hD hS
    exact lv_iconst hx hb hd (of_decide_eq_true hax) (hk _ _ _ _ _ _ h hca hsl ad ls H locs hn0 had hlv hP hD hS)
  case bipush n =>
    have hl9 : 2 = len := Nat.eq_of_beq_eq_true hil
    subst hl9
    intro hca hsl ad ls H locs hn0 had hlv hP hD hS
    exact lv_bipush hx hb hd (of_decide_eq_true hax) (hk _ _ _ _ _ _ h hca hsl ad ls H locs hn0 had hlv hP hD hS)
  case sipush n =>
    have hl9 : 3 = len := Nat.eq_of_beq_eq_true hil
    subst hl9
    intro hca hsl ad ls H locs hn0 had hlv hP hD hS
    exact lv_sipush hx hb hd (of_decide_eq_true hax) (hk _ _ _ _ _ _ h hca hsl ad ls H locs hn0 had hlv hP hD hS)
  case lconst n =>
    have hl9 : 1 = len := Nat.eq_of_beq_eq_true hil
    subst hl9
    intro hca hsl ad ls H locs hn0 had hlv hP hD hS
    split at h
    · exact lv_lconst (v := 0) hx hb hd rfl (hk _ _ _ _ _ _ h hca hsl ad ls H locs hn0 had hlv hP hD hS)
    · exact lv_lconst (v := 1) hx hb hd rfl (hk _ _ _ _ _ _ h hca hsl ad ls H locs hn0 had hlv hP hD hS)
  case aconst_null =>
    have hl9 : 1 = len := Nat.eq_of_beq_eq_true hil
    subst hl9
    intro hca hsl ad ls H locs hn0 had hlv hP hD hS
    exact lv_null hx hb hd (hk _ _ _ _ _ _ h hca hsl ad ls H locs hn0 had hlv hP hD hS)
  case ldc i9 =>
    have hl9 : 2 = len := Nat.eq_of_beq_eq_true hil
    subst hl9
    intro hca hsl ad ls H locs hn0 had hlv hP hD hS
    split at h
    · next v hv => exact lv_ldc hx hb hown (hts _ (hE5 (i9, v) (q_lk_mem hv))) hd (hk _ _ _ _ _ _ h hca hsl ad ls H locs hn0 had hlv hP hD hS)
    · split at h
      · next e9 hv =>
        obtain ⟨x, hx1, hx2, hx3⟩ := hE6 (i9, e9) (q_lk_mem hv)
        obtain ⟨hR9, -⟩ := hamb.1 e9 x hx1
        rw [hx2, hx3] at hR9
        exact va_ldcS hx hb hown hR9 hd (hk _ _ _ _ _ _ h hca hsl ad ls H locs hn0 had hlv hP hD hS)
      · exact h.elim
  case ldc_w i9 =>
    have hl9 : 3 = len := Nat.eq_of_beq_eq_true hil
    subst hl9
    intro hca hsl ad ls H locs hn0 had hlv hP hD hS
    split at h
    · next v hv => exact lv_ldcw hx hb hown (hts _ (hE5 (i9, v) (q_lk_mem hv))) hd (hk _ _ _ _ _ _ h hca hsl ad ls H locs hn0 had hlv hP hD hS)
    · split at h
      · next e9 hv =>
        obtain ⟨x, hx1, hx2, hx3⟩ := hE6 (i9, e9) (q_lk_mem hv)
        obtain ⟨hR9, -⟩ := hamb.1 e9 x hx1
        rw [hx2, hx3] at hR9
        exact q_ldcW hx hb hown hR9 hd (hk _ _ _ _ _ _ h hca hsl ad ls H locs hn0 had hlv hP hD hS)
      · exact h.elim
  case ldc2_w i9 =>
    have hl9 : 3 = len := Nat.eq_of_beq_eq_true hil
    subst hl9
    intro hca hsl ad ls H locs hn0 had hlv hP hD hS
    split at h
    · next v hv => exact lv_ldc2 hx hb hown (hts _ (hE4 (i9, v) (q_lk_mem hv))) hd (hk _ _ _ _ _ _ h hca hsl ad ls H locs hn0 had hlv hP hD hS)
    · exact h.elim
  case iload i9 =>
    have hl9 : 2 = len := Nat.eq_of_beq_eq_true hil
    subst hl9
    intro hca hsl ad ls H locs hn0 had hlv hP hD hS
    split at h
    · next x hv => exact lv_iload hx hb hd (q_rd hlv hv) (hk _ _ _ _ _ _ h hca hsl ad ls H locs hn0 had hlv hP hD hS)
    · exact h.elim
  case lload i9 =>
    have hl9 : 2 = len := Nat.eq_of_beq_eq_true hil
    subst hl9
    intro hca hsl ad ls H locs hn0 had hlv hP hD hS
    split at h
    · next x hv => exact lv_lload hx hb hd (q_rd hlv hv) (hk _ _ _ _ _ _ h hca hsl ad ls H locs hn0 had hlv hP hD hS)
    · exact h.elim
  case iload_n i9 =>
    have hl9 : 1 = len := Nat.eq_of_beq_eq_true hil
    subst hl9
    intro hca hsl ad ls H locs hn0 had hlv hP hD hS
    split at h
    · next x hv => exact lv_iload_n hx hb hd rfl (q_rd hlv hv) (hk _ _ _ _ _ _ h hca hsl ad ls H locs hn0 had hlv hP hD hS)
    · exact h.elim
  case lload_n i9 =>
    have hl9 : 1 = len := Nat.eq_of_beq_eq_true hil
    subst hl9
    intro hca hsl ad ls H locs hn0 had hlv hP hD hS
    split at h
    · next x hv => exact lv_lload_n hx hb hd rfl (q_rd hlv hv) (hk _ _ _ _ _ _ h hca hsl ad ls H locs hn0 had hlv hP hD hS)
    · exact h.elim
  case aload i9 =>
    have hl9 : 2 = len := Nat.eq_of_beq_eq_true hil
    subst hl9
    intro hca hsl ad ls H locs hn0 had hlv hP hD hS
    split at h
    · next x hv => exact lv_aload hx hb hd (q_rd hlv hv) (hk _ _ _ _ _ _ h hca hsl ad ls H locs hn0 had hlv hP hD hS)
    · next x hv => exact lv_aload hx hb hd (q_rd hlv hv) (hk _ _ _ _ _ _ h hca hsl ad ls H locs hn0 had hlv hP hD hS)
    · exact h.elim
  case aload_n i9 =>
    have hl9 : 1 = len := Nat.eq_of_beq_eq_true hil
    subst hl9
    intro hca hsl ad ls H locs hn0 had hlv hP hD hS
    split at h
    · next x hv => exact lv_aload_n hx hb hd rfl (q_rd hlv hv) (hk _ _ _ _ _ _ h hca hsl ad ls H locs hn0 had hlv hP hD hS)
    · next x hv => exact lv_aload_n hx hb hd rfl (q_rd hlv hv) (hk _ _ _ _ _ _ h hca hsl ad ls H locs hn0 had hlv hP hD hS)
    · next hv => exact lv_aload_nN hx hb hd rfl (q_rd hlv hv) (hk _ _ _ _ _ _ h hca hsl ad ls H locs hn0 had hlv hP hD hS)
    · exact h.elim
  case istore i9 =>
    have hl9 : 2 = len := Nat.eq_of_beq_eq_true hil
    subst hl9
    intro hca hsl ad ls H locs hn0 had hlv hP hD hS
    split at h
    · next x st9 =>
      split at h
      · next hb9 =>
        obtain ⟨lv', h, hm⟩ := q_put_ok _ _ _ _ _ _ h
        exact lv_istore hx hb hd hlv (Nat.le_of_ble_eq_true hb9) rfl (fun ls' hl' => hk _ _ _ _ _ _ h hca hsl ad ls' H locs hn0 had (q_sto hl' hm) hP hD hS)
      · exact h.elim
    · exact h.elim
  case istore_n i9 =>
    have hl9 : 1 = len := Nat.eq_of_beq_eq_true hil
    subst hl9
    intro hca hsl ad ls H locs hn0 had hlv hP hD hS
    split at h
    · next x st9 =>
      split at h
      · next hb9 =>
        obtain ⟨lv', h, hm⟩ := q_put_ok _ _ _ _ _ _ h
        exact lv_istore_n hx hb hd rfl hlv (Nat.le_of_ble_eq_true hb9) rfl (fun ls' hl' => hk _ _ _ _ _ _ h hca hsl ad ls' H locs hn0 had (q_sto hl' hm) hP hD hS)
      · exact h.elim
    · exact h.elim
  case astore i9 =>
    have hl9 : 2 = len := Nat.eq_of_beq_eq_true hil
    subst hl9
    intro hca hsl ad ls H locs hn0 had hlv hP hD hS
    split at h
    · next x st9 =>
      split at h
      · next hb9 =>
        obtain ⟨lv', h, hm⟩ := q_put_ok _ _ _ _ _ _ h
        exact lv_astore hx hb hd hlv (Nat.le_of_ble_eq_true hb9) rfl (fun ls' hl' => hk _ _ _ _ _ _ h hca hsl ad ls' H locs hn0 had (q_sto hl' hm) hP hD hS)
      · exact h.elim
    · exact h.elim
  case astore_n i9 =>
    have hl9 : 1 = len := Nat.eq_of_beq_eq_true hil
    subst hl9
    intro hca hsl ad ls H locs hn0 had hlv hP hD hS
    split at h
    · next x st9 =>
      split at h
      · next hb9 =>
        obtain ⟨lv', h, hm⟩ := q_put_ok _ _ _ _ _ _ h
        exact lv_astore_n hx hb hd rfl hlv (Nat.le_of_ble_eq_true hb9) rfl (fun ls' hl' => hk _ _ _ _ _ _ h hca hsl ad ls' H locs hn0 had (q_sto hl' hm) hP hD hS)
      · exact h.elim
    · exact h.elim
  case lstore i9 =>
    have hl9 : 2 = len := Nat.eq_of_beq_eq_true hil
    subst hl9
    intro hca hsl ad ls H locs hn0 had hlv hP hD hS
    split at h
    · next x st9 =>
      split at h
      · next hb9 =>
        obtain ⟨lv', h, hm⟩ := q_put_ok _ _ _ _ _ _ h
        exact lv_lstore hx hb hd hlv (Nat.le_of_ble_eq_true hb9) rfl (fun ls' hl' => hk _ _ _ _ _ _ h hca hsl ad ls' H locs hn0 had (q_stoL hl' hm) hP hD hS)
      · exact h.elim
    · exact h.elim
  case lstore_n i9 =>
    have hl9 : 1 = len := Nat.eq_of_beq_eq_true hil
    subst hl9
    intro hca hsl ad ls H locs hn0 had hlv hP hD hS
    split at h
    · next x st9 =>
      split at h
      · next hb9 =>
        obtain ⟨lv', h, hm⟩ := q_put_ok _ _ _ _ _ _ h
        exact lv_lstore_n hx hb hd rfl hlv (Nat.le_of_ble_eq_true hb9) rfl (fun ls' hl' => hk _ _ _ _ _ _ h hca hsl ad ls' H locs hn0 had (q_stoL hl' hm) hP hD hS)
      · exact h.elim
    · exact h.elim
  case iinc i9 n9 =>
    have hl9 : 3 = len := Nat.eq_of_beq_eq_true hil
    subst hl9
    intro hca hsl ad ls H locs hn0 had hlv hP hD hS
    split at h
    · next x hv =>
      split at h
      · next hb9 =>
        obtain ⟨lv', h, hm⟩ := q_put_ok _ _ _ _ _ _ h
        obtain ⟨k9, hk9⟩ := List.getElem?_of_mem (List.mem_map.mpr ⟨(i9, .int x), q_lk_mem hv, rfl⟩ : (i9, Value.int x) ∈ lv.map (q_cp ad xd))
        exact lv_iinc (v := x + cn) hx hb hd hlv hk9 (by rw [of_decide_eq_true hax]) (Nat.le_of_ble_eq_true hb9) rfl (fun ls' hl' => hk _ _ _ _ _ _ h hca hsl ad ls' H locs hn0 had (q_sto hl' hm) hP hD hS)
      · exact h.elim
    · exact h.elim
  case pop =>
    have hl9 : 1 = len := Nat.eq_of_beq_eq_true hil
    subst hl9
    intro hca hsl ad ls H locs hn0 had hlv hP hD hS
    split at h
    · next v st9 =>
      split at h
      · next hb9 => exact lv_pop hx hb hd (by rw [q_cv_cat]; exact Nat.eq_of_beq_eq_true hb9) (hk _ _ _ _ _ _ h hca hsl ad ls H locs hn0 had hlv hP hD hS)
      · exact h.elim
    · exact h.elim
  case dup =>
    have hl9 : 1 = len := Nat.eq_of_beq_eq_true hil
    subst hl9
    intro hca hsl ad ls H locs hn0 had hlv hP hD hS
    split at h
    · next v st9 =>
      split at h
      · next hb9 => exact lv_dup hx hb hd (by rw [q_cv_cat]; exact Nat.eq_of_beq_eq_true hb9) (hk _ _ _ _ _ _ h hca hsl ad ls H locs hn0 had hlv hP hD hS)
      · exact h.elim
    · exact h.elim
  case dup2 =>
    have hl9 : 1 = len := Nat.eq_of_beq_eq_true hil
    subst hl9
    intro hca hsl ad ls H locs hn0 had hlv hP hD hS
    split at h
    · next v st9 =>
      split at h
      · next hb9 =>
        split at h
        · next w st8 =>
          split at h
          · next hb8 => exact lv_dup2_11 hx hb hd (by rw [q_cv_cat]; exact Nat.eq_of_beq_eq_true hb9) (by rw [q_cv_cat]; exact Nat.eq_of_beq_eq_true hb8) (hk _ _ _ _ _ _ h hca hsl ad ls H locs hn0 had hlv hP hD hS)
          · exact h.elim
        · exact h.elim
      · next hb9 =>
        have hc2 : v.category = 2 := by
          rcases lv_cat v with z | z
          · rw [z] at hb9; cases hb9
          · exact z
        exact lv_dup2_2 hx hb hd (by rw [q_cv_cat]; exact hc2) (hk _ _ _ _ _ _ h hca hsl ad ls H locs hn0 had hlv hP hD hS)
    · exact h.elim
  case iadd =>
    have hl9 : 1 = len := Nat.eq_of_beq_eq_true hil
    subst hl9
    intro hca hsl ad ls H locs hn0 had hlv hP hD hS
    split at h
    · exact lv_iadd hx hb hd (hk _ _ _ _ _ _ h hca hsl ad ls H locs hn0 had hlv hP hD hS)
    · exact h.elim
  case isub =>
    have hl9 : 1 = len := Nat.eq_of_beq_eq_true hil
    subst hl9
    intro hca hsl ad ls H locs hn0 had hlv hP hD hS
    split at h
    · exact lv_isub hx hb hd (hk _ _ _ _ _ _ h hca hsl ad ls H locs hn0 had hlv hP hD hS)
    · exact h.elim
  case imul =>
    have hl9 : 1 = len := Nat.eq_of_beq_eq_true hil
    subst hl9
    intro hca hsl ad ls H locs hn0 had hlv hP hD hS
    split at h
    · exact lv_imul hx hb hd (hk _ _ _ _ _ _ h hca hsl ad ls H locs hn0 had hlv hP hD hS)
    · exact h.elim
  case iand =>
    have hl9 : 1 = len := Nat.eq_of_beq_eq_true hil
    subst hl9
    intro hca hsl ad ls H locs hn0 had hlv hP hD hS
    split at h
    · exact lv_iand hx hb hd (hk _ _ _ _ _ _ h hca hsl ad ls H locs hn0 had hlv hP hD hS)
    · exact h.elim
  case ior =>
    have hl9 : 1 = len := Nat.eq_of_beq_eq_true hil
    subst hl9
    intro hca hsl ad ls H locs hn0 had hlv hP hD hS
    split at h
    · exact lv_ior hx hb hd (hk _ _ _ _ _ _ h hca hsl ad ls H locs hn0 had hlv hP hD hS)
    · exact h.elim
  case ishl =>
    have hl9 : 1 = len := Nat.eq_of_beq_eq_true hil
    subst hl9
    intro hca hsl ad ls H locs hn0 had hlv hP hD hS
    split at h
    · exact lv_ishl hx hb hd (hk _ _ _ _ _ _ h hca hsl ad ls H locs hn0 had hlv hP hD hS)
    · exact h.elim
  case ishr =>
    have hl9 : 1 = len := Nat.eq_of_beq_eq_true hil
    subst hl9
    intro hca hsl ad ls H locs hn0 had hlv hP hD hS
    split at h
    · exact lv_ishr hx hb hd (hk _ _ _ _ _ _ h hca hsl ad ls H locs hn0 had hlv hP hD hS)
    · exact h.elim
  case ladd =>
    have hl9 : 1 = len := Nat.eq_of_beq_eq_true hil
    subst hl9
    intro hca hsl ad ls H locs hn0 had hlv hP hD hS
    split at h
    · exact lv_ladd hx hb hd (hk _ _ _ _ _ _ h hca hsl ad ls H locs hn0 had hlv hP hD hS)
    · exact h.elim
  case lmul =>
    have hl9 : 1 = len := Nat.eq_of_beq_eq_true hil
    subst hl9
    intro hca hsl ad ls H locs hn0 had hlv hP hD hS
    split at h
    · exact lv_lmul hx hb hd (hk _ _ _ _ _ _ h hca hsl ad ls H locs hn0 had hlv hP hD hS)
    · exact h.elim
  case irem =>
    have hl9 : 1 = len := Nat.eq_of_beq_eq_true hil
    subst hl9
    intro hca hsl ad ls H locs hn0 had hlv hP hD hS
    split at h
    · exact lv_irem hx hb hd h.1 (hk _ _ _ _ _ _ h.2 hca hsl ad ls H locs hn0 had hlv hP hD hS)
    · exact h.elim
  case lcmp =>
    have hl9 : 1 = len := Nat.eq_of_beq_eq_true hil
    subst hl9
    intro hca hsl ad ls H locs hn0 had hlv hP hD hS
    split at h
    · exact W.lcmp hx hb hd (hk _ _ _ _ _ _ h hca hsl ad ls H locs hn0 had hlv hP hD hS)
    · exact h.elim
  case i2l =>
    have hl9 : 1 = len := Nat.eq_of_beq_eq_true hil
    subst hl9
    intro hca hsl ad ls H locs hn0 had hlv hP hD hS
    split at h
    · exact lv_i2l hx hb hd rfl (hk _ _ _ _ _ _ h hca hsl ad ls H locs hn0 had hlv hP hD hS)
    · exact h.elim
  case i2b =>
    have hl9 : 1 = len := Nat.eq_of_beq_eq_true hil
    subst hl9
    intro hca hsl ad ls H locs hn0 had hlv hP hD hS
    split at h
    · exact lv_i2b hx hb hd rfl (hk _ _ _ _ _ _ h hca hsl ad ls H locs hn0 had hlv hP hD hS)
    · exact h.elim
  case iushr =>
    have hl9 : 1 = len := Nat.eq_of_beq_eq_true hil
    subst hl9
    intro hca hsl ad ls H locs hn0 had hlv hP hD hS
    split at h
    · exact lv_iushr hx hb hd rfl (hk _ _ _ _ _ _ h hca hsl ad ls H locs hn0 had hlv hP hD hS)
    · exact h.elim
  case i2c =>
    have hl9 : 1 = len := Nat.eq_of_beq_eq_true hil
    subst hl9
    intro hca hsl ad ls H locs hn0 had hlv hP hD hS
    split at h
    · exact lv_i2c hx hb hd rfl (hk _ _ _ _ _ _ h hca hsl ad ls H locs hn0 had hlv hP hD hS)
    · exact h.elim
  case goto o9 =>
    have hl9 : 3 = len := Nat.eq_of_beq_eq_true hil
    subst hl9
    intro hca hsl ad ls H locs hn0 had hlv hP hD hS
    exact lv_goto hx hb hd (of_decide_eq_true hax) (hk _ _ _ _ _ _ h hca hsl ad ls H locs hn0 had hlv hP hD hS)
  case ifCond c9 o9 =>
    have hl9 : 3 = len := Nat.eq_of_beq_eq_true hil
    subst hl9
    intro hca hsl ad ls H locs hn0 had hlv hP hD hS
    split at h
    · cases c9 <;> dsimp only at h
      · exact lv_if_eq hx hb hd (of_decide_eq_true hax) (fun g => hk _ _ _ _ _ _ (h.1 g) hca hsl ad ls H locs hn0 had hlv hP hD hS) (fun g => hk _ _ _ _ _ _ (h.2 g) hca hsl ad ls H locs hn0 had hlv hP hD hS)
      · exact lv_if_ne hx hb hd (of_decide_eq_true hax) (fun g => hk _ _ _ _ _ _ (h.1 g) hca hsl ad ls H locs hn0 had hlv hP hD hS) (fun g => hk _ _ _ _ _ _ (h.2 g) hca hsl ad ls H locs hn0 had hlv hP hD hS)
      · exact lv_if_lt hx hb hd (of_decide_eq_true hax) (fun g => hk _ _ _ _ _ _ (h.1 g) hca hsl ad ls H locs hn0 had hlv hP hD hS) (fun g => hk _ _ _ _ _ _ (h.2 g) hca hsl ad ls H locs hn0 had hlv hP hD hS)
      · exact lv_if_ge hx hb hd (of_decide_eq_true hax) (fun g => hk _ _ _ _ _ _ (h.1 g) hca hsl ad ls H locs hn0 had hlv hP hD hS) (fun g => hk _ _ _ _ _ _ (h.2 g) hca hsl ad ls H locs hn0 had hlv hP hD hS)
      · exact lv_if_gt hx hb hd (of_decide_eq_true hax) (fun g => hk _ _ _ _ _ _ (h.1 g) hca hsl ad ls H locs hn0 had hlv hP hD hS) (fun g => hk _ _ _ _ _ _ (h.2 g) hca hsl ad ls H locs hn0 had hlv hP hD hS)
      · exact lv_if_le hx hb hd (of_decide_eq_true hax) (fun g => hk _ _ _ _ _ _ (h.1 g) hca hsl ad ls H locs hn0 had hlv hP hD hS) (fun g => hk _ _ _ _ _ _ (h.2 g) hca hsl ad ls H locs hn0 had hlv hP hD hS)
    · exact h.elim
  case if_icmp c9 o9 =>
    have hl9 : 3 = len := Nat.eq_of_beq_eq_true hil
    subst hl9
    intro hca hsl ad ls H locs hn0 had hlv hP hD hS
    split at h
    · cases c9 <;> dsimp only at h
      · exact lv_icmp_eq hx hb hd (of_decide_eq_true hax) (fun g => hk _ _ _ _ _ _ (h.1 g) hca hsl ad ls H locs hn0 had hlv hP hD hS) (fun g => hk _ _ _ _ _ _ (h.2 g) hca hsl ad ls H locs hn0 had hlv hP hD hS)
      · exact lv_icmp_ne hx hb hd (of_decide_eq_true hax) (fun g => hk _ _ _ _ _ _ (h.1 g) hca hsl ad ls H locs hn0 had hlv hP hD hS) (fun g => hk _ _ _ _ _ _ (h.2 g) hca hsl ad ls H locs hn0 had hlv hP hD hS)
      · exact lv_icmp_lt hx hb hd (of_decide_eq_true hax) (fun g => hk _ _ _ _ _ _ (h.1 g) hca hsl ad ls H locs hn0 had hlv hP hD hS) (fun g => hk _ _ _ _ _ _ (h.2 g) hca hsl ad ls H locs hn0 had hlv hP hD hS)
      · exact lv_icmp_ge hx hb hd (of_decide_eq_true hax) (fun g => hk _ _ _ _ _ _ (h.1 g) hca hsl ad ls H locs hn0 had hlv hP hD hS) (fun g => hk _ _ _ _ _ _ (h.2 g) hca hsl ad ls H locs hn0 had hlv hP hD hS)
      · exact lv_icmp_gt hx hb hd (of_decide_eq_true hax) (fun g => hk _ _ _ _ _ _ (h.1 g) hca hsl ad ls H locs hn0 had hlv hP hD hS) (fun g => hk _ _ _ _ _ _ (h.2 g) hca hsl ad ls H locs hn0 had hlv hP hD hS)
      · exact lv_icmp_le hx hb hd (of_decide_eq_true hax) (fun g => hk _ _ _ _ _ _ (h.1 g) hca hsl ad ls H locs hn0 had hlv hP hD hS) (fun g => hk _ _ _ _ _ _ (h.2 g) hca hsl ad ls H locs hn0 had hlv hP hD hS)
    · exact h.elim
  case ifnull o9 =>
    have hl9 : 3 = len := Nat.eq_of_beq_eq_true hil
    subst hl9
    intro hca hsl ad ls H locs hn0 had hlv hP hD hS
    split at h
    · exact lv_ifnullN hx hb hd (of_decide_eq_true hax) (hk _ _ _ _ _ _ h hca hsl ad ls H locs hn0 had hlv hP hD hS)
    · exact lv_ifnull hx hb hd (hk _ _ _ _ _ _ h hca hsl ad ls H locs hn0 had hlv hP hD hS)
    · exact lv_ifnull hx hb hd (hk _ _ _ _ _ _ h hca hsl ad ls H locs hn0 had hlv hP hD hS)
    · exact h.elim
  case ifnonnull o9 =>
    have hl9 : 3 = len := Nat.eq_of_beq_eq_true hil
    subst hl9
    intro hca hsl ad ls H locs hn0 had hlv hP hD hS
    split at h
    · exact lv_ifnonnullN hx hb hd (hk _ _ _ _ _ _ h hca hsl ad ls H locs hn0 had hlv hP hD hS)
    · exact lv_ifnonnull hx hb hd (of_decide_eq_true hax) (hk _ _ _ _ _ _ h hca hsl ad ls H locs hn0 had hlv hP hD hS)
    · exact lv_ifnonnull hx hb hd (of_decide_eq_true hax) (hk _ _ _ _ _ _ h hca hsl ad ls H locs hn0 had hlv hP hD hS)
    · exact h.elim
  case tableswitch d9 lo hi offs =>
    intro hca hsl ad ls H locs hn0 had hlv hP hD hS
    split at h
    · next x st9 =>
      obtain ⟨h1, h2, h3, h4⟩ := h
      by_cases ho : x.toInt < lo ∨ hi < x.toInt
      · exact lv_tableOut hx hb hd ho (Int.toNat_of_nonneg h4.1).symm (hk _ _ _ _ _ _ (h1 ho) hca hsl ad ls H locs hn0 had hlv hP hD hS)
      · have a1 : ¬ x.toInt < lo := fun q => ho (Or.inl q)
        have a2 : ¬ hi < x.toInt := fun q => ho (Or.inr q)
        have hlt : (x.toInt - lo).toNat < offs.toList.length := by omega
        obtain ⟨o, ho9⟩ : ∃ o, offs.toList[(x.toInt - lo).toNat]? = some o := ⟨_, List.getElem?_eq_getElem hlt⟩
        have hnn := h4.2 o (List.mem_of_getElem? ho9)
        exact lv_tableIn hx hb hd a1 a2 (by rw [← Array.getElem?_toList]; exact ho9) (Int.toNat_of_nonneg hnn).symm (hk _ _ _ _ _ _ (q_tsw_ok _ _ h2 _ o ho9 (by omega)) hca hsl ad ls H locs hn0 had hlv hP hD hS)
    · exact h.elim
  case getfield i9 =>
    have hl9 : 3 = len := Nat.eq_of_beq_eq_true hil
    subst hl9
    intro hca hsl ad ls H locs hn0 had hlv hP hD hS
    split at h
    · next p0 st9 =>
      split at h
      · next ci j hf =>
        split at h
        · next cj fs hat =>
          split at h
          · next hbq =>
            have e1 := q_ci hbq
            subst e1
            split at h
            · next v hv =>
              rw [q_at_eq] at hv
              obtain ⟨C, T, N, hc, hj, hlk⟩ := hE2 _ (q_lk_mem hf)
              dsimp only at hc hj hlk
              obtain ⟨cw1, cw2, cw3⟩ := q_cls ci _ hc
              have hvv : (fs.map (q_cv ad xd))[j]? = some (q_cv ad xd v) := by rw [List.getElem?_map, hv]; rfl
              rcases hlk with ⟨hlk, -⟩ | ⟨-, host, hlk⟩ | ⟨-, -, host, hlk⟩
              · exact va_get (ref := (T j).1) hx hb hts cw1 hown hK hP p0 (q_cell hat) hc j hj (hts _ hlk) (fun _ h9 => h9) hvv hd (hk _ _ _ _ _ _ h hca hsl ad ls H locs hn0 had hlv hP hD hS)
              · exact va_getN (ref := (T j).1) (host := host) hx hb hts cw1 hown hK hP p0 (q_cell hat) hc j hj (va_Nw.use rfl (hamb.2.2.2.2.2.2.2 _ hlk)) (fun _ h9 => h9) hvv hd (hk _ _ _ _ _ _ h hca hsl ad ls H locs hn0 had hlv hP hD hS)
              · exact va_getN (ref := (T j).1) (host := host) hx hb hts cw1 hown hK hP p0 (q_cell hat) hc j hj (va_Nw.use rfl (hamb.2.2.2.2.2.2.2 _ hlk)) (fun _ h9 => h9) hvv hd (hk _ _ _ _ _ _ h hca hsl ad ls H locs hn0 had hlv hP hD hS)
            · exact h.elim
          · exact h.elim
        · exact h.elim
      · exact h.elim
    · exact h.elim
  case putfield i9 =>
    have hl9 : 3 = len := Nat.eq_of_beq_eq_true hil
    subst hl9
    intro hca hsl ad ls H locs hn0 had hlv hP hD hS
    split at h
    · next v p0 st9 =>
      split at h
      · next ci j hf =>
        split at h
        · next cj fs hat =>
          split at h
          · next hbq =>
            have e1 := q_ci hbq
            subst e1
            obtain ⟨C, T, N, hc, hj, hlk⟩ := hE2 _ (q_lk_mem hf)
            dsimp only at hc hj hlk
            obtain ⟨cw1, cw2, cw3⟩ := q_cls ci _ hc
            have hfin : q_fin ci j = (T j).2.2.2 := by simp only [q_fin, q_at_eq, hc]
            split at h
            · next hff =>
              rw [hfin] at hff
              obtain ⟨f1, f2, h⟩ := q_fit_ok (ad := ad) (xd := xd) h
              obtain ⟨g1, h⟩ := q_set_eq _ _ _ _ h
              obtain ⟨-, g2⟩ := q_set_eq _ _ _ _ h
              have hl9 : j < (fs.map (q_cv ad xd)).length := by rw [List.length_map]; exact g1
              rcases hlk with ⟨hlk, -⟩ | ⟨-, host, hlk⟩ | ⟨hff2, -⟩
              · exact va_put (ref := (T j).1) (ty := q_fty ci j) hx hb hts cw1 (q_fty ci) cw2 cw3 hown hK hP hD hS p0 (q_cell hat) hc j hj (hts _ hlk) (fun _ h9 => h9) hff (cw2 j hj) f1 f2 hl9 hd (fun H1 locs1 hP1 hD1 hS1 => by rw [q_setF] at hP1 hD1; exact hk _ _ _ _ _ _ g2 hca hsl ad ls H1 locs1 (by rw [List.length_set]; exact hn0) had hlv (by rw [← q_cw_set]; exact hP1) (by rw [← q_cw_set]; exact hD1) hS1)
              · exact va_putN (ref := (T j).1) (host := host) (ty := q_fty ci j) hx hb hts cw1 (q_fty ci) cw2 cw3 hown hK hP hD hS p0 (q_cell hat) hc j hj (va_Nw.use rfl (hamb.2.2.2.2.2.2.2 _ hlk)) (fun _ h9 => h9) hff (cw2 j hj) f1 f2 hl9 hd (fun H1 locs1 hP1 hD1 hS1 => by rw [q_setF] at hP1 hD1; exact hk _ _ _ _ _ _ g2 hca hsl ad ls H1 locs1 (by rw [List.length_set]; exact hn0) had hlv (by rw [← q_cw_set]; exact hP1) (by rw [← q_cw_set]; exact hD1) hS1)
              · rw [hff] at hff2; cases hff2
            · next hff =>
              rw [hfin] at hff
              split at h
              · next hin9 =>
                obtain ⟨hnm, hcn⟩ := hini ci (Nat.eq_of_beq_eq_true hin9)
                rw [hc] at hcn
                have hCo : C = own := Option.some.inj hcn
                obtain ⟨f1, f2, h⟩ := q_fit_ok (ad := ad) (xd := xd) h
                obtain ⟨g1, h⟩ := q_set_eq _ _ _ _ h
                obtain ⟨-, g2⟩ := q_set_eq _ _ _ _ h
                have hl9 : j < (fs.map (q_cv ad xd)).length := by rw [List.length_map]; exact g1
                rcases hlk with ⟨hlk, hdc⟩ | ⟨hff2, -⟩ | ⟨-, hne, -⟩
                · exact va_putF (ref := (T j).1) (ty := q_fty ci j) hx hb hts cw1 (q_fty ci) cw2 cw3 hown hK hP hD hS p0 (q_cell hat) hc j hj (hts _ hlk) (fun _ h9 => h9) hff hnm (hdc.trans hCo) (cw2 j hj) f1 f2 hl9 hd (fun H1 locs1 hP1 hD1 hS1 => by rw [q_setF] at hP1 hD1; exact hk _ _ _ _ _ _ g2 hca hsl ad ls H1 locs1 (by rw [List.length_set]; exact hn0) had hlv (by rw [← q_cw_set]; exact hP1) (by rw [← q_cw_set]; exact hD1) hS1)
                · rw [hff] at hff2; cases hff2
                · exact absurd hCo hne
              · exact h.elim
          · exact h.elim
        · exact h.elim
      · exact h.elim
    · exact h.elim
  case getstatic i9 =>
    have hl9 : 3 = len := Nat.eq_of_beq_eq_true hil
    subst hl9
    intro hca hsl ad ls H locs hn0 had hlv hP hD hS
    split at h
    · next e9 hv =>
      split at h
      · next hb9 =>
        have h1 : e9 = 44 := Nat.eq_of_beq_eq_true hb9
        subst h1
        rcases hE7 _ (q_lk_mem hv) with ⟨-, h2⟩ | ⟨h2, -⟩ | ⟨h2, -⟩
        · exact va_gets (C := RX0) (n := "ROOM") (d := "[I") (ref := RX0) hx hb hamb.2.1 hS hown (hts _ h2) (fun _ h9 => h9) hd (hk _ _ _ _ _ _ h hca hsl ad ls H locs hn0 had hlv hP hD hS)
        · simp at h2
        · simp at h2
      · exact h.elim
    · exact h.elim
  case arraylength =>
    have hl9 : 1 = len := Nat.eq_of_beq_eq_true hil
    subst hl9
    intro hca hsl ad ls H locs hn0 had hlv hP hD hS
    split at h
    · next p0 st9 =>
      split at h
      · next kd n f hat =>
        have hkd : kd = 0 ∨ kd = 1 ∨ kd = 2 ∨ kd = 3 := h.1
        have hce := q_cell (cy := cy) (ad := ad) (xd := xd) hat
        have hh := hk _ _ _ _ _ _ h.2 hca hsl ad ls H locs hn0 had hlv hP hD hS
        rcases f with f | f <;> rcases hkd with rfl | rfl | rfl | rfl
        · exact va_alen hx hb hK hP p0 0 hce (ty := .byte) rfl rfl hd hh
        · exact va_alen hx hb hK hP p0 1 hce (ty := .int) rfl rfl hd hh
        · exact va_alen hx hb hK hP p0 2 hce (ty := .long) rfl rfl hd hh
        · exact va_alen hx hb hK hP p0 3 hce (ty := .boolean) rfl rfl hd hh
        · exact va_alen hx hb hK hP p0 0 hce (ty := .byte) rfl rfl hd hh
        · exact va_alen hx hb hK hP p0 1 hce (ty := .int) rfl rfl hd hh
        · exact va_alen hx hb hK hP p0 2 hce (ty := .long) rfl rfl hd hh
        · exact va_alen hx hb hK hP p0 3 hce (ty := .boolean) rfl rfl hd hh
      · exact h.elim
    · next e9 st9 =>
      split at h
      · next n f hv => exact va_tlen hx hb (hct _ (q_lk_mem hv)) hS rfl hd (hk _ _ _ _ _ _ h hca hsl ad ls H locs hn0 had hlv hP hD hS)
      · exact h.elim
    · exact h.elim
  case iaload =>
    have hl9 : 1 = len := Nat.eq_of_beq_eq_true hil
    subst hl9
    intro hca hsl ad ls H locs hn0 had hlv hP hD hS
    split at h
    · next x p0 st9 =>
      split at h
      · next kd n f hat =>
        split at h
        · next hbq =>
          have e1 := Nat.eq_of_beq_eq_true hbq
          subst e1
          exact va_iald hx hb hK hP p0 1 (q_cell hat) rfl h.1 hd (hk _ _ _ _ _ _ h.2 hca hsl ad ls H locs hn0 had hlv hP hD hS)
        · exact h.elim
      · exact h.elim
    · next x e9 st9 =>
      split at h
      · next n f hv => exact va_ti hx hb (hct _ (q_lk_mem hv)) hS h.1 rfl hd (hk _ _ _ _ _ _ h.2 hca hsl ad ls H locs hn0 had hlv hP hD hS)
      · exact h.elim
    · exact h.elim
  case baload =>
    have hl9 : 1 = len := Nat.eq_of_beq_eq_true hil
    subst hl9
    intro hca hsl ad ls H locs hn0 had hlv hP hD hS
    split at h
    · next x p0 st9 =>
      split at h
      · next kd n f hat =>
        split at h
        · next hbq =>
          simp only [Bool.or_eq_true] at hbq
          rcases hbq with hbq | hbq
          · have e1 := Nat.eq_of_beq_eq_true hbq
            subst e1
            exact va_bald hx hb hK hP p0 0 (q_cell hat) rfl h.1 hd (hk _ _ _ _ _ _ h.2 hca hsl ad ls H locs hn0 had hlv hP hD hS)
          · have e1 := Nat.eq_of_beq_eq_true hbq
            subst e1
            exact va_zald hx hb hK hP p0 3 (q_cell hat) rfl h.1 hd (hk _ _ _ _ _ _ h.2 hca hsl ad ls H locs hn0 had hlv hP hD hS)
        · exact h.elim
      · exact h.elim
    · exact h.elim
  case laload =>
    have hl9 : 1 = len := Nat.eq_of_beq_eq_true hil
    subst hl9
    intro hca hsl ad ls H locs hn0 had hlv hP hD hS
    split at h
    · next x p0 st9 =>
      split at h
      · next kd n f hat =>
        split at h
        · next hbq =>
          have e1 := Nat.eq_of_beq_eq_true hbq
          subst e1
          exact va_lald hx hb hK hP p0 2 (q_cell hat) rfl h.1 hd (hk _ _ _ _ _ _ h.2 hca hsl ad ls H locs hn0 had hlv hP hD hS)
        · exact h.elim
      · exact h.elim
    · exact h.elim
  case iastore =>
    have hl9 : 1 = len := Nat.eq_of_beq_eq_true hil
    subst hl9
    intro hca hsl ad ls H locs hn0 had hlv hP hD hS
    split at h
    · next y x p0 st9 =>
      split at h
      · next kd n f hat =>
        split at h
        · next hbq =>
          have e1 := Nat.eq_of_beq_eq_true hbq
          subst e1
          obtain ⟨hin, h⟩ := h
          obtain ⟨-, h⟩ := q_set_eq _ _ _ _ h
          exact va_iast hx hb hK hP hD hS p0 1 (q_cell hat) rfl hin hd (fun H1 locs1 hP1 hD1 hS1 => hk _ _ _ _ _ _ h hca hsl ad ls H1 locs1 (by rw [List.length_set]; exact hn0) had hlv (by rw [← q_cw_set]; exact hP1) (by rw [← q_cw_set]; exact hD1) hS1)
        · exact h.elim
      · exact h.elim
    · exact h.elim
  case lastore =>
    have hl9 : 1 = len := Nat.eq_of_beq_eq_true hil
    subst hl9
    intro hca hsl ad ls H locs hn0 had hlv hP hD hS
    split at h
    · next y x p0 st9 =>
      split at h
      · next kd n f hat =>
        split at h
        · next hbq =>
          have e1 := Nat.eq_of_beq_eq_true hbq
          subst e1
          obtain ⟨hin, h⟩ := h
          obtain ⟨-, h⟩ := q_set_eq _ _ _ _ h
          exact va_last hx hb hK hP hD hS p0 2 (q_cell hat) rfl hin hd (fun H1 locs1 hP1 hD1 hS1 => hk _ _ _ _ _ _ h hca hsl ad ls H1 locs1 (by rw [List.length_set]; exact hn0) had hlv (by rw [← q_cw_set]; exact hP1) (by rw [← q_cw_set]; exact hD1) hS1)
        · exact h.elim
      · exact h.elim
    · exact h.elim
  case bastore =>
    have hl9 : 1 = len := Nat.eq_of_beq_eq_true hil
    subst hl9
    intro hca hsl ad ls H locs hn0 had hlv hP hD hS
    split at h
    · next y x p0 st9 =>
      split at h
      · next kd n f hat =>
        split at h
        · next hbq =>
          have e1 := Nat.eq_of_beq_eq_true hbq
          subst e1
          obtain ⟨hin, h⟩ := h
          obtain ⟨-, h⟩ := q_set_eq _ _ _ _ h
          exact va_bast hx hb hK hP hD hS p0 0 (q_cell hat) rfl hin hd (fun H1 locs1 hP1 hD1 hS1 => hk _ _ _ _ _ _ h hca hsl ad ls H1 locs1 (by rw [List.length_set]; exact hn0) had hlv (by rw [← q_cw_set]; exact hP1) (by rw [← q_cw_set]; exact hD1) hS1)
        · split at h
          · next hbq =>
            have e1 := Nat.eq_of_beq_eq_true hbq
            subst e1
            obtain ⟨hin, h⟩ := h
            obtain ⟨-, h⟩ := q_set_eq _ _ _ _ h
            exact va_zast hx hb hK hP hD hS p0 3 (q_cell hat) rfl hin hd (fun H1 locs1 hP1 hD1 hS1 => hk _ _ _ _ _ _ h hca hsl ad ls H1 locs1 (by rw [List.length_set]; exact hn0) had hlv (by rw [← q_cw_set]; exact hP1) (by rw [← q_cw_set]; exact hD1) hS1)
          · exact h.elim
      · exact h.elim
    · exact h.elim
  case new i9 =>
    have hl9 : 3 = len := Nat.eq_of_beq_eq_true hil
    subst hl9
    intro hca hsl ad ls H locs hn0 had hlv hP hD hS
    split at h
    · next ci hv =>
      obtain ⟨hrm, h⟩ := h
      split at h
      · exact h.elim
      · next hvv =>
        simp only [Bool.and_eq_true] at hvv
        rw [q_ln_eq] at hvv
        obtain ⟨C, T, N, hc, hN, hcl, hin, hit⟩ := hE8 _ (q_lk_mem hv)
        dsimp only at hc hN
        subst hN
        obtain ⟨cw1, cw2, cw3⟩ := q_cls ci _ hc
        rw [← hRC, ← hRS] at hrm
        obtain ⟨n9, h, hn9⟩ := q_hdN_ok _ _ _ h
        have hn9 : n9 = aw.length := by rw [q_ln_eq] at hn9; exact q_ns_at hn9
        subst hn9
        obtain ⟨fs, h, hfl, hfv⟩ := q_dvs_ok _ 0 _ _ (fun j a ha => by rw [q_ns_at ha, Nat.zero_add]) h
        have h := q_sn_ok h
        have hfm : ∀ ad9 : Nat → Nat, fs.map (q_cv ad9 xd) = fs := by
          intro ad9
          apply List.ext_getElem?
          intro j
          rw [List.getElem?_map]
          rcases Nat.lt_or_ge j (q_cin ci) with hj | hj
          · have := hfv j hj
            rw [Nat.zero_add] at this
            rw [this.1]
            show some _ = some _
            rw [this.2]
          · rw [List.getElem?_eq_none (by omega)]; rfl
        refine va_new (ci := ci) (fs := fs) hx hb hts cw1 (q_fty ci) cw2 hown (hts _ hcl) (hts _ hin) (hts _ hit) hK hP hD hS hA hc (fun j hj => ?_) hrm.1 hrm.2 hd (fun q H1 hP1 hD1 hS1 => ?_)
        · have := (hfv j hj).1
          rw [Nat.zero_add] at this
          show _ = fs.getD j .null
          rw [List.getD_eq_getElem?_getD, this]
          rfl
        · obtain ⟨ad2, a1, a2, a3⟩ := q_grow (cy := cy) (ad := ad) (xd := xd) q hvv.2.2
          have e5 : q_cw cy ad2 xd 0 (aw ++ [.inr (ci, fs)]) = q_cw cy ad xd 0 aw ++ [(q, .inr (ci, fs))] := by
            rw [q_cw_app, a3, Nat.zero_add, a2]
            simp only [q_cE, hfm]
          have h6 := hk _ _ _ _ _ _ h hrm.1 hrm.2 ad2 ls H1 locs (by rw [List.length_append]; omega) (fun j hj => by rw [a1 j (by omega)]; exact had j hj) (by rw [q_vl_ok a1 hvv.1]; exact hlv) (by rw [e5]; exact hP1) (by rw [e5]; exact hD1) hS1
          rw [List.map_cons, q_vs_ok a1 hvv.2.1] at h6
          simp only [q_cv, a2] at h6
          exact h6
    · exact h.elim
  case newarray a9 =>
    have hl9 : 2 = len := Nat.eq_of_beq_eq_true hil
    subst hl9
    intro hca hsl ad ls H locs hn0 had hlv hP hD hS
    split at h
    · next x st9 =>
      obtain ⟨⟨hxt, ht9, hrm⟩, h⟩ := h
      split at h
      · exact h.elim
      · next hvv =>
        simp only [Bool.and_eq_true] at hvv
        rw [q_ln_eq] at hvv
        rw [← hRC, ← hRS] at hrm
        obtain ⟨n9, h, hn9⟩ := q_hdN_ok _ _ _ h
        have hn9 : n9 = aw.length := by rw [q_ln_eq] at hn9; exact q_ns_at hn9
        subst hn9
        have hx0 : ¬ x < 0 := by rw [hxt]; exact nI_pos (by omega)
        have hxc : x.toNatClampNeg = t := by rw [hxt]; exact nI_clamp (by omega)
        have fin : ∀ (kn : Nat) (ty : FieldType) (f9 : (Nat → Int32) ⊕ (Nat → Int64)) (g9 : (Nat → Int32) ⊕ (Nat → Int64) ⊕ (Nat → UInt32) ⊕ (Nat → UInt64) ⊕ (Nat → Option Nat)), newarray.typeOf a9 = ty → (q_tys cy)[kn]? = some (cy kn, ty) → (∀ cA : ClassId, vp_cell cA (t, g9) = arrV cA t (fun _ => defaultValue ty)) → (∀ ad9 : Nat → Nat, q_cE cy ad9 xd (.inl (kn, t, f9)) = .inl (cy kn, t, g9)) → t * componentBytes ty ≤ 536870912 → (∀ cA : ClassId, va_RA s cA ty → cA = cy kn) →
            k (pc + 2) lv (.ref aw.length :: st9) (aw ++ [.inl (kn, t, f9)]) (ca + 1) (sl + t) → W p l e R s m args below meth c H locs ca sl Q (F0 m pc ls ((.int x :: st9).map (q_cv ad xd))) := by
          intro kn ty f9 g9 hty hk1 hcell hcE hbytes hra h
          have harr : (Cond.arrayClass (newarray.typeOf a9)).before args s = true := hts _ (q_arr a9 ty kn hty hk1)
          refine va_newa (a0 := (t, g9)) hx hb harr hty hK hP hD hS hA hcell hx0 hxc hbytes hrm.1 hrm.2 hd (fun q cA H1 hK1 hP1 hD1 hS1 => ?_)
          have hcA : cA = cy kn := hra cA (hK1.2 4 (cA, ty) rfl).2
          subst hcA
          obtain ⟨ad2, a1, a2, a3⟩ := q_grow (cy := cy) (ad := ad) (xd := xd) q hvv.2.2
          have e5 : q_cw cy ad2 xd 0 (aw ++ [.inl (kn, t, f9)]) = q_cw cy ad xd 0 aw ++ [(q, .inl (cy kn, t, g9))] := by
            rw [q_cw_app, a3, Nat.zero_add, a2, hcE]
          have h6 := hk _ _ _ _ _ _ h hrm.1 hrm.2 ad2 ls H1 locs (by rw [List.length_append]; omega) (fun j hj => by rw [a1 j (by omega)]; exact had j hj) (by rw [q_vl_ok a1 hvv.1]; exact hlv) (by rw [e5]; exact hP1) (by rw [e5]; exact hD1) hS1
          rw [List.map_cons, q_vs_ok a1 hvv.2.1] at h6
          simp only [q_cv, a2] at h6
          exact h6
        have ra : ∀ (kn : Nat) (ty : FieldType), (q_tys cy)[kn]? = some (cy kn, ty) → (∀ U cA, va_RA U cA ty = (U.vm.findClass ("[" ++ ty.toString) = some cA)) → ∀ cA : ClassId, va_RA s cA ty → cA = cy kn := by
          intro kn ty hk1 hra cA h1
          have h2 := (hK.2 kn _ hk1).2
          rw [hra] at h1 h2
          exact Option.some.inj (h1.symm.trans h2)
        have hb8 : ∀ ty : FieldType, componentBytes ty ≤ 8 → t * componentBytes ty ≤ 536870912 := fun ty h8 => Nat.le_trans (Nat.mul_le_mul_left _ h8) (by omega)
        split at h
        · next hty => exact fin 0 .byte _ (.inl (fun _ => 0)) hty rfl (fun _ => rfl) (fun _ => rfl) (hb8 _ (by decide)) (ra 0 .byte rfl (fun _ _ => rfl)) (q_sn_ok h)
        · next hty => exact fin 1 .int _ (.inl (fun _ => 0)) hty rfl (fun _ => rfl) (fun _ => rfl) (hb8 _ (by decide)) (ra 1 .int rfl (fun _ _ => rfl)) (q_sn_ok h)
        · next hty => exact fin 2 .long _ (.inr (.inl (fun _ => 0))) hty rfl (fun _ => rfl) (fun _ => rfl) (hb8 _ (by decide)) (ra 2 .long rfl (fun _ _ => rfl)) (q_sn_ok h)
        · next hty => exact fin 3 .boolean _ (.inl (fun _ => 0)) hty rfl (fun _ => rfl) (fun _ => rfl) (hb8 _ (by decide)) (ra 3 .boolean rfl (fun _ _ => rfl)) (q_sn_ok h)
        · exact h.elim
    · exact h.elim
  case invokevirtual i9 =>
    have hl9 : 3 = len := Nat.eq_of_beq_eq_true hil
    subst hl9
    split at h
    · next cs hv =>
      obtain ⟨n, rc, d, mL, mc, ms, fd, sp⟩ := cs
      refine q_call_ok hcx hk ht (fun h1 h2 h3 => q_RV hcx (hE3 _ (q_lk_mem hv)) hd h1 h2 ?_) h
      simp only [Bool.or_eq_true] at h3
      rcases h3 with h3 | h3
      · exact Or.inl (Nat.le_of_ble_eq_true h3)
      · exact Or.inr (Nat.eq_of_beq_eq_true h3)
    · exact h.elim
  case invokestatic i9 =>
    have hl9 : 3 = len := Nat.eq_of_beq_eq_true hil
    subst hl9
    split at h
    · next e9 hv =>
      intro hca hsl ad ls H locs hn0 had hlv hP hD hS
      split at h
      · next y x st9 =>
        split at h
        · next hb9 =>
          simp only [Bool.and_eq_true] at hb9
          have hdp := Nat.le_of_ble_eq_true hb9.2
          have hct9 := Nat.le_of_ble_eq_true hb9.1
          have hcat : ((st9.map (q_cv ad xd)).map fun v => v.category).sum ≤ 8 := by rw [q_cats_eq]; exact hct9
          have hml9 : c.maxLocals = ls.size := by rw [hml]; exact hlv.1.symm
          split at h
          · next hb8 =>
            have e1 := Nat.eq_of_beq_eq_true hb8
            subst e1
            rcases hE7 _ (q_lk_mem hv) with ⟨h2, -⟩ | ⟨-, h2⟩ | ⟨h2, -⟩
            · simp at h2
            · exact va_mmax hx hb hml9 hown (hts _ h2) (hts _ q_mx1) (hts _ q_mi) (hts _ q_mx2) (by omega) (by omega) hca hsl hd (hk _ _ _ _ _ _ h hca hsl ad ls H locs hn0 had hlv hP hD hS)
            · simp at h2
          · split at h
            · next hb8 =>
              have e1 := Nat.eq_of_beq_eq_true hb8
              subst e1
              rcases hE7 _ (q_lk_mem hv) with ⟨h2, -⟩ | ⟨h2, -⟩ | ⟨-, h2⟩
              · simp at h2
              · simp at h2
              · exact va_mmin hx hb hml9 hown (hts _ h2) (hts _ q_mn1) (hts _ q_mi) (hts _ q_mn2) (by omega) (by omega) hca hsl hd (hk _ _ _ _ _ _ h hca hsl ad ls H locs hn0 had hlv hP hD hS)
            · exact h.elim
        · exact h.elim
      · exact h.elim
    · split at h
      · next cs hv =>
        obtain ⟨n, rc, d, mL, mc, ms, fd, sp⟩ := cs
        exact q_call_ok hcx hk ht (fun h1 h2 h3 => q_RS2 hcx (hE3 _ (q_lk_mem hv)) hd h1 h2 (Nat.eq_of_beq_eq_true h3)) h
      · exact h.elim
  case invokespecial i9 =>
    have hl9 : 3 = len := Nat.eq_of_beq_eq_true hil
    subst hl9
    split at h
    · next hoi =>
      simp only [Bool.and_eq_true] at hoi
      intro hca hsl ad ls H locs hn0 had hlv hP hD hS
      split at h
      · next p0 st9 =>
        split at h
        · next hb9 =>
          simp only [Bool.and_eq_true] at hb9
          have e1 := Nat.eq_of_beq_eq_true hoi.1
          have hdp := Nat.le_of_ble_eq_true hb9.2
          have hct9 := Nat.le_of_ble_eq_true hb9.1
          have hlk := hE9 (Nat.le_of_ble_eq_true hoi.2)
          rw [← e1] at hlk
          have hcat : ((st9.map (q_cv ad xd)).map fun v => v.category).sum ≤ 8 := by rw [q_cats_eq]; exact hct9
          refine W.objInit hx hb hown (hts _ hlk) (hts _ q_oi1) (hts _ q_oi2) (g := F0 m pc ls (.ref (ad p0) :: st9.map (q_cv ad xd))) rfl (by rw [hml]; exact hlv.1) rfl hd (by omega) ?_ ?_
          · show 2 * 0 + _ + 12 ≤ _
            omega
          · exact hk _ _ _ _ _ _ h hca hsl ad ls H locs hn0 had hlv hP hD hS
        · exact h.elim
      · exact h.elim
    · split at h
      · next cs hv =>
        obtain ⟨n, rc, d, mL, mc, ms, fd, sp⟩ := cs
        exact q_call_ok hcx hk ht (fun h1 h2 h3 => q_RI2 hcx (hE3 _ (q_lk_mem hv)) hd h1 h2 (Nat.eq_of_beq_eq_true h3)) h
      · exact h.elim
  case ireturn =>
    have hl9 : 1 = len := Nat.eq_of_beq_eq_true hil
    subst hl9
    split at h
    · split at h
      · next ht9 => exact hr.1 _ _ _ _ _ _ _ hd ht9 rfl h
      · next ht9 => exact hr.1 _ _ _ _ _ _ _ hd ht9 h.1 h.2
      · next ht9 => exact hr.1 _ _ _ _ _ _ _ hd ht9 h.1 h.2
      · next ht9 => exact hr.1 _ _ _ _ _ _ _ hd ht9 h.1 h.2
      · exact h.elim
    · exact h.elim
  case lreturn =>
    have hl9 : 1 = len := Nat.eq_of_beq_eq_true hil
    subst hl9
    split at h
    · split at h
      · next ht9 => exact hr.2.1 _ _ _ _ _ _ hd ht9 h
      · exact h.elim
    · exact h.elim
  case areturn =>
    have hl9 : 1 = len := Nat.eq_of_beq_eq_true hil
    subst hl9
    split at h
    · split at h
      · next ht9 => exact hr.2.2.1 _ _ _ _ _ _ _ hd ht9 h
      · exact h.elim
    · exact h.elim
  case return_ =>
    have hl9 : 1 = len := Nat.eq_of_beq_eq_true hil
    subst hl9
    split at h
    · split at h
      · next ht9 => exact hr.2.2.2 _ _ _ _ _ hd ht9 h
      · exact h.elim
    · exact h.elim
  case athrow =>
    have hl9 : 1 = len := Nat.eq_of_beq_eq_true hil
    subst hl9
    split at h
    · next v st9 =>
      obtain ⟨p0, rfl, hX⟩ := ht _ _ _ _ _ _ h
      intro hca hsl ad ls H locs hn0 had hlv hP hD hS
      exact q_athrow hx hb hd (hX hca hsl ad ls (st9.map (q_cv ad xd)) H locs hn0 had hlv hP hD hS)
    · exact h.elim
end QU
