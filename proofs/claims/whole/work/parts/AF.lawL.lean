/-! ===== what stands around the law at its start ===== -/
def sTm (x : String × Nat × String × List Int32) : Term := .string x.1 x.2.1
def sWords (x : String × Nat × String × List Int32) : List Cond := [Cond.exactly (sTm x) "java/lang/String", Cond.eq (.field (sTm x) "java/lang/String" "coder" "B") (.int 0), Cond.arrayOf (.field (sTm x) "java/lang/String" "value" "[B") .byte, Cond.eq (.length (.field (sTm x) "java/lang/String" "value" "[B")) (.int (Int32.ofNat x.2.2.2.length))] ++ (List.range x.2.2.2.length).map (fun j => Cond.eq (.elem (.field (sTm x) "java/lang/String" "value" "[B") (.int (Int32.ofNat j))) (.int (x.2.2.2.getD j 0)))
def lwFlat : List Cond := flatC (Jvm.Cond.and given_1 narrow_1)
def isStr : Cond → Bool
  | .exactly (.string _ _) _ => true
  | _ => false
def notSame : Cond → Bool
  | .eq (.string _ _) (.string _ _) => false
  | _ => true
/-- the texts in the order in which the statement names them -/
def q_strT : List (String × Nat × String × List Int32) := (q_str.drop 1).take 5 ++ (q_str.take 1 ++ q_str.drop 6)
theorem sT_in : (q_str.all (fun x => decide (x ∈ q_strT))) = true := by decide +kernel
theorem sSeg : ((lwFlat.filter notSame).dropWhile (fun c => !isStr c)).take (q_strT.flatMap sWords).length = q_strT.flatMap sWords := by decide +kernel
theorem sW_in {x : String × Nat × String × List Int32} (hx : x ∈ q_str) {w : Cond} (hw : w ∈ sWords x) : w ∈ lwFlat := by
  have h1 : w ∈ q_strT.flatMap sWords := List.mem_flatMap.mpr ⟨x, of_decide_eq_true (List.all_eq_true.mp sT_in x hx), hw⟩
  rw [← sSeg] at h1
  exact (List.mem_filter.mp ((List.dropWhile_suffix _).subset (List.mem_of_mem_take h1))).1
theorem sR_in : (q_str.all (fun x => decide (Cond.stringRef x.1 x.2.1 x.2.2.1 ∈ tables_1))) = true := by decide +kernel
theorem sL_in : (q_str.all (fun x => decide (x.2.2.2.length < 1000))) = true := by decide +kernel
def roomW : List Cond := [Cond.arrayOf (.static RX0 "ROOM" "[I") .int, Cond.eq (.length (.static RX0 "ROOM" "[I")) (.int 4), Cond.eq (.elem (.static RX0 "ROOM" "[I") (.int 0)) (.int 8), Cond.eq (.elem (.static RX0 "ROOM" "[I") (.int 1)) (.int 5), Cond.eq (.elem (.static RX0 "ROOM" "[I") (.int 2)) (.int 6), Cond.eq (.elem (.static RX0 "ROOM" "[I") (.int 3)) (.int 6), Cond.eq (.static "java/lang/String" "COMPACT_STRINGS" "Z") (.int 1), Cond.isRef (.static "jdk/internal/util/Preconditions" "SIOOBE_FORMATTER" "Ljava/util/function/BiFunction;"), Cond.isRef (.static Bundle.tN "UNASSIGNED_STACK" Bundle.steD), Cond.isRef (.static Bundle.tN "SUPPRESSED_SENTINEL" Bundle.listD)]
theorem room_in : (roomW.all (fun w => decide (w ∈ lwFlat))) = true := by decide +kernel
section AMB
variable {s : State} {args : Array Value} {A : Nat → Prop}
theorem str_of {x : String × Nat × String × List Int32} (hx : x ∈ q_str) (hts : ∀ w ∈ lw_tbl, w.before args s = true) (hs : ∀ c ∈ lwFlat, c.before args s = true) (hA : ∀ a : Nat, a < s.heap.size → ¬ A a) :
    ∃ q : Nat × Nat, vk_R x.1 x.2.1 x.2.2.1 q.1 s ∧ va_O "java/lang/String" q.1 A s s.heap ∧ va_OF "java/lang/String" "coder" "B" (.int 0) q.1 A s s.heap ∧ va_OF "java/lang/String" "value" "[B" (.ref q.2) q.1 A s s.heap ∧ va_T .byte q.2 x.2.2.2.length (fun j => .int (x.2.2.2.getD j 0)) A s s.heap := by
  have hw : ∀ w ∈ sWords x, w.before args s = true := fun w hw => hs w (sW_in hx hw)
  have hr : (Cond.stringRef x.1 x.2.1 x.2.2.1).before args s = true := hts _ (List.mem_append_right _ (of_decide_eq_true (List.all_eq_true.mp sR_in x hx)))
  have hl : x.2.2.2.length < 1000 := of_decide_eq_true (List.all_eq_true.mp sL_in x hx)
  have z : ∀ {i : Nat}, i < 1 → i = 0 := fun h => by omega
  obtain ⟨aK, aV, h1, h2⟩ := vk_Sof (args := args) (s := s) (N := 1) (tm := fun _ => sTm x) (len := [x.2.2.2.length]) (byt := [x.2.2.2]) (A := A)
    (fun i hi => by rw [z hi]; show x.2.2.2.length < 2 ^ 31; omega)
    (fun i hi => hw _ (List.mem_append_left _ List.mem_cons_self))
    (fun i hi => hw _ (List.mem_append_left _ (List.mem_cons_of_mem _ List.mem_cons_self)))
    (fun i hi => hw _ (List.mem_append_left _ (List.mem_cons_of_mem _ (List.mem_cons_of_mem _ List.mem_cons_self))))
    (fun i hi => by rw [z hi]; exact hw _ (List.mem_append_left _ (List.mem_cons_of_mem _ (List.mem_cons_of_mem _ (List.mem_cons_of_mem _ List.mem_cons_self)))))
    (fun i hi j hj => by
      rw [z hi] at hj ⊢
      exact hw _ (List.mem_append_right _ (List.mem_map.mpr ⟨j, List.mem_range.mpr hj, rfl⟩)))
    (fun i j hi hj hij => absurd ((z hi).trans (z hj).symm) hij) hA
  exact ⟨(aK 0, aV 0), vk_R.of hr (h2 0 (by decide)), h1.1 0 (by decide)⟩
theorem amb_of (b : Nat) (hts : ∀ w ∈ lw_tbl, w.before args s = true) (hs : ∀ c ∈ lwFlat, c.before args s = true) (hA : ∀ a : Nat, a < s.heap.size → ¬ A a) : ∃ xd : Nat → Nat, xd 90 = b ∧ q_Amb xd xd A s s.heap := by
  have htab : ∀ (i : Nat) (w : Cond), tables_1[i]? = some w → w.before args s = true := fun i w h => hts w (List.mem_append_right _ (List.mem_of_getElem? h))
  have hrm : ∀ w ∈ roomW, w.before args s = true := fun w hw => hs w (of_decide_eq_true (List.all_eq_true.mp room_in w hw))
  have hrw : ∀ (i : Nat) (w : Cond), roomW[i]? = some w → w.before args s = true := fun i w h => hrm w (List.mem_of_getElem? h)
  have hstr : ∀ i : Nat, ∃ q : Nat × Nat, ∀ x, q_str[i]? = some x → vk_R x.1 x.2.1 x.2.2.1 q.1 s ∧ va_O "java/lang/String" q.1 A s s.heap ∧ va_OF "java/lang/String" "coder" "B" (.int 0) q.1 A s s.heap ∧ va_OF "java/lang/String" "value" "[B" (.ref q.2) q.1 A s s.heap ∧ va_T .byte q.2 x.2.2.2.length (fun j => .int (x.2.2.2.getD j 0)) A s s.heap := by
    intro i
    cases hx : q_str[i]? with
    | none => exact ⟨(0, 0), fun x h => by cases h⟩
    | some x =>
      obtain ⟨q, hq⟩ := str_of (List.mem_of_getElem? hx) hts hs hA
      exact ⟨q, fun y hy => by cases hy; exact hq⟩
  obtain ⟨ad, had⟩ := Classical.axiomOfChoice hstr
  obtain ⟨tR, hR1, hR2⟩ := va_Tof (args := args) (s := s) (tm := .static RX0 "ROOM" "[I") (ty := .int) (N := 4) (f := fun j => .int (q_ROOM j)) (A := A) (by decide) (hrw 0 _ rfl) (va_eqt (hrw 1 _ rfl)) (fun j hj => by
    match j, hj with
    | 0, _ => exact va_eqt (hrw 2 _ rfl)
    | 1, _ => exact va_eqt (hrw 3 _ rfl)
    | 2, _ => exact va_eqt (hrw 4 _ rfl)
    | 3, _ => exact va_eqt (hrw 5 _ rfl)) hA
  have hZR := va_Zref (A := A) (htab 645 (.laysStatic RX0 "ROOM" "[I") (by decide +kernel)) (htab 2 (.initialized RX0) (by decide +kernel)) hR1 hA
  have hZC := va_Zof (A := A) (htab 220 (.laysStatic "java/lang/String" "COMPACT_STRINGS" "Z") (by decide +kernel)) (htab 7 (.initialized "java/lang/String") (by decide +kernel)) (va_eqt (hrw 6 _ rfl)) hA
  obtain ⟨tF, hF⟩ : ∃ t, va_Z "jdk/internal/util/Preconditions" "SIOOBE_FORMATTER" "Ljava/util/function/BiFunction;" .null A s s.heap ∨ va_Z "jdk/internal/util/Preconditions" "SIOOBE_FORMATTER" "Ljava/util/function/BiFunction;" (.ref t) A s s.heap := by
    rcases va_Zqof (A := A) (htab 237 (.laysStatic "jdk/internal/util/Preconditions" "SIOOBE_FORMATTER" "Ljava/util/function/BiFunction;") (by decide +kernel)) (htab 9 (.initialized "jdk/internal/util/Preconditions") (by decide +kernel)) (hrw 7 _ rfl) hA with h | ⟨t, h⟩
    · exact ⟨0, Or.inl h⟩
    · exact ⟨t, Or.inr h⟩
  have hZU := qx_Zqof (A := A) (htab 1195 (.laysStatic Bundle.tN "UNASSIGNED_STACK" Bundle.steD) (by decide +kernel)) (htab 18 (.initialized Bundle.tN) (by decide +kernel)) (hrw 8 _ rfl) hA
  have hZS := qx_Zqof (A := A) (htab 1197 (.laysStatic Bundle.tN "SUPPRESSED_SENTINEL" Bundle.listD) (by decide +kernel)) (htab 18 (.initialized Bundle.tN) (by decide +kernel)) (hrw 9 _ rfl) hA
  obtain ⟨xd, x90, x1, x44, x2, x89⟩ : ∃ xd : Nat → Nat, xd 90 = b ∧ (∀ i, i < 44 → xd i = (ad i).1) ∧ xd 44 = tR ∧ (∀ i, i < 44 → xd (45 + i) = (ad i).2) ∧ xd 89 = tF :=
    ⟨fun e => if e < 44 then (ad e).1 else if e = 44 then tR else if e < 89 then (ad (e - 45)).2 else if e = 89 then tF else b, rfl, fun i hi => if_pos hi, rfl, fun i hi => by
      show (if 45 + i < 44 then (ad (45 + i)).1 else if 45 + i = 44 then tR else if 45 + i < 89 then (ad (45 + i - 45)).2 else if 45 + i = 89 then tF else b) = (ad i).2
      rw [if_neg (by omega), if_neg (by omega), if_pos (by omega), show 45 + i - 45 = i by omega], rfl⟩
  refine ⟨xd, x90, fun i x hx => ?_, by rw [x44]; exact hZR, by rw [x44]; exact hR2, hZC, by unfold q_Fm; rw [x89]; exact hF, hZU, hZS, fun w hw => ?_⟩
  · have hi := q_str_lt hx
    unfold q_sOk
    rw [x1 i hi, x2 i hi]
    exact had i x hx
  · have hb := (List.mem_filter.mp hw).2
    have hw1 := hts w (List.mem_append_right _ (List.mem_filter.mp hw).1)
    cases w <;> first | exact va_Nw.of rfl hw1 | (simp [q_isN] at hb)
theorem inst_in : (vwCl.all (fun q => decide (Cond.instantiable q.1 q.2.2 ∈ tables_1))) = true := by decide +kernel
theorem arr_of {ty : FieldType} (h : (Cond.arrayClass ty).before args s = true) : ∃ cA : ClassId, ArrOfT s cA ty ∧ s.vm.findClass ("[" ++ ty.toString) = some cA := by
  obtain ⟨cA, kA, comp, h1, h2, h3⟩ := Cond.arrayClass_spec h
  exact ⟨cA, fun n z => ⟨fun k h => (by cases h), kA, h2, comp, h3⟩, h1⟩
theorem K_of (hts : ∀ w ∈ lw_tbl, w.before args s = true) : ∃ (D : va_G) (cy : Nat → ClassId), va_K D vwCl (q_tys cy) s := by
  have htab : ∀ (i : Nat) (w : Cond), tables_1[i]? = some w → w.before args s = true := fun i w h => hts w (List.mem_append_right _ (List.mem_of_getElem? h))
  have hG : ∀ w ∈ q_G, w.before args s = true := fun w hw => hts w (List.mem_filter.mp hw).1
  have h0 : ∀ c : Nat, ∃ q : ClassId × (Nat → Nat), ∀ r, vwCl[c]? = some r → u_Kn s r.1 r.2.1 r.2.2 q.1 q.2 := by
    intro c
    cases hc : vwCl[c]? with
    | none => exact ⟨(default, fun _ => 0), fun r h => by cases h⟩
    | some r =>
      obtain ⟨cC, iS, h⟩ := u_known hG (q_cls c r hc).1 (hts _ (List.mem_append_right _ (of_decide_eq_true (List.all_eq_true.mp inst_in r (List.mem_of_getElem? hc)))))
      exact ⟨(cC, iS), fun y hy => by cases hy; exact h⟩
  obtain ⟨D, hD⟩ := Classical.axiomOfChoice h0
  obtain ⟨c0, a0, n0⟩ := arr_of (htab 85 (.arrayClass .byte) (by decide +kernel))
  obtain ⟨c1, a1, n1⟩ := arr_of (htab 86 (.arrayClass .int) (by decide +kernel))
  obtain ⟨c2, a2, n2⟩ := arr_of (htab 87 (.arrayClass .long) (by decide +kernel))
  obtain ⟨c3, a3, n3⟩ := arr_of (htab 121 (.arrayClass .boolean) (by decide +kernel))
  refine ⟨(fun c => (D c).1, fun c => (D c).2), fun k => if k = 0 then c0 else if k = 1 then c1 else if k = 2 then c2 else c3, fun c r hr => hD c r hr, fun k q hk => ?_⟩
  match k, hk with
  | 0, hk => cases hk; exact ⟨a0, n0⟩
  | 1, hk => cases hk; exact ⟨a1, n1⟩
  | 2, hk => cases hk; exact ⟨a2, n2⟩
  | 3, hk => cases hk; exact ⟨a3, n3⟩
  | k + 4, hk => simp [q_tys] at hk
end AMB

