/-! ===== a step is sound ===== -/
def q_Cx (p : Program) (l : Launch) (s : State) (m : MethodId) (args : Array Value) (meth : Method) (c : Code) (R : Room) (own : String) (cc : ByteArray) (D : va_G) (cy : Nat → ClassId) (xd xv : Nat → Nat) (A : Nat → Prop) (E : q_E) : Prop :=
  p.tables.exec = Jvm.exec ∧ c.code = cc ∧ c.maxLocals = q_nL E ∧ s.vm.findClass own = some m.cls ∧ (∀ w ∈ q_G, w.before args s = true) ∧ va_K D vwCl (q_tys cy) s ∧ (∀ q, s.heap.size ≤ q → A q) ∧ (∀ x ∈ q_ct E, va_T .int (xd x.1) x.2.1 (fun j => .int (x.2.2 j)) A s s.heap) ∧ q_Amb xd xv A s s.heap ∧
  (∀ ci, q_in E = ci + 1 → meth.name = "<init>" ∧ (vwCl[ci]?).map (fun q => q.1) = some own) ∧ (q_dp E ≤ R.frames ∧ 64 * q_dp E ≤ R.locals ∧ R.cells = q_RC E ∧ R.slots = q_RS E) ∧ q_Eok l own cc E
def q_W (p : Program) (l : Launch) (e : Env) (R : Room) (s : State) (m : MethodId) (args : Array Value) (below : List Frame) (meth : Method) (c : Code) (D : va_G) (cy : Nat → ClassId) (xd : Nat → Nat) (A : Nat → Prop) (n0 : Nat) (ad0 : Nat → Nat) (nL : Nat) (Q : State → Prop) : q_N := fun pc lv st aw ca sl =>
  ca ≤ R.cells → sl ≤ R.slots → ∀ (ad : Nat → Nat) (ls : Array Slot) (H : Heap) (locs : List Loc), n0 ≤ aw.length → (∀ i, i < n0 → ad i = ad0 i) → lv_has ls nL (lv.map (q_cp ad xd)) → va_P D vwCl (q_cw cy ad xd 0 aw) H → va_D A (q_cw cy ad xd 0 aw) → va_S A s.heap H locs →
    W p l e R s m args below meth c H locs ca sl Q (F0 m pc ls (st.map (q_cv ad xd)))
/-- v is thrown at pc -/
def q_X (p : Program) (l : Launch) (e : Env) (R : Room) (s : State) (m : MethodId) (args : Array Value) (below : List Frame) (meth : Method) (c : Code) (D : va_G) (cy : Nat → ClassId) (xd : Nat → Nat) (A : Nat → Prop) (n0 : Nat) (ad0 : Nat → Nat) (nL : Nat) (Q : State → Prop) (pc p0 : Nat) (lv : q_L) (aw : List q_C) (ca sl : Nat) : Prop :=
  ca ≤ R.cells → sl ≤ R.slots → ∀ (ad : Nat → Nat) (ls : Array Slot) (rest : List Value) (H : Heap) (locs : List Loc), n0 ≤ aw.length → (∀ i, i < n0 → ad i = ad0 i) → lv_has ls nL (lv.map (q_cp ad xd)) → va_P D vwCl (q_cw cy ad xd 0 aw) H → va_D A (q_cw cy ad xd 0 aw) → va_S A s.heap H locs →
    qx_W p l e R s m args below meth c H locs ca sl Q (F0 m pc ls rest) (ad p0)
theorem q_rd {ad xd : Nat → Nat} {ls : Array Slot} {nL i : Nat} {lv : q_L} {v : Value} (h : lv_has ls nL (lv.map (q_cp ad xd))) (hv : q_lk i lv = some v) : ls[i]? = some (.val (q_cv ad xd v)) :=
  h.2.2 (i, q_cv ad xd v) (List.mem_map.mpr ⟨(i, v), q_lk_mem hv, rfl⟩)
theorem q_sto {ad xd : Nat → Nat} {ls : Array Slot} {nL i : Nat} {lv lv' : q_L} {v : Value} (h : lv_has ls nL ((i, q_cv ad xd v) :: (lv.map (q_cp ad xd)).filter (fun q => !(q.1 == i) && !(q.1 + 1 == i && q.2.category == 2)))) (hm : ∀ q ∈ lv', q = (i, v) ∨ (q ∈ lv ∧ q_keep i false q)) : lv_has ls nL (lv'.map (q_cp ad xd)) := by
  refine ⟨h.1, h.2.1, fun q hq => ?_⟩
  obtain ⟨q0, h0, rfl⟩ := List.mem_map.mp hq
  rcases hm q0 h0 with e | ⟨h1, h2, h3, -⟩
  · subst e; exact h.2.2 _ List.mem_cons_self
  · refine h.2.2 _ (List.mem_cons_of_mem _ (List.mem_filter.mpr ⟨List.mem_map.mpr ⟨q0, h1, rfl⟩, ?_⟩))
    simp only [q_cp, q_cv_cat]
    simp only [Bool.and_eq_true, Bool.not_eq_true', beq_eq_false_iff_ne, Bool.and_eq_false_iff, ne_eq]
    refine ⟨h2, ?_⟩
    by_cases z : q0.1 + 1 = i
    · exact Or.inr (fun y => h3 ⟨z, y⟩)
    · exact Or.inl z
theorem q_stoL {ad xd : Nat → Nat} {ls : Array Slot} {nL i : Nat} {lv lv' : q_L} {v : Value} (h : lv_has ls nL ((i, q_cv ad xd v) :: (lv.map (q_cp ad xd)).filter (fun q => !(q.1 == i) && (!(q.1 == i + 1) && !(q.1 + 1 == i && q.2.category == 2))))) (hm : ∀ q ∈ lv', q = (i, v) ∨ (q ∈ lv ∧ q_keep i true q)) : lv_has ls nL (lv'.map (q_cp ad xd)) := by
  refine ⟨h.1, h.2.1, fun q hq => ?_⟩
  obtain ⟨q0, h0, rfl⟩ := List.mem_map.mp hq
  rcases hm q0 h0 with e | ⟨h1, h2, h3, h4⟩
  · subst e; exact h.2.2 _ List.mem_cons_self
  · refine h.2.2 _ (List.mem_cons_of_mem _ (List.mem_filter.mpr ⟨List.mem_map.mpr ⟨q0, h1, rfl⟩, ?_⟩))
    simp only [q_cp, q_cv_cat]
    simp only [Bool.and_eq_true, Bool.not_eq_true', beq_eq_false_iff_ne, Bool.and_eq_false_iff, ne_eq]
    refine ⟨h2, h4 rfl, ?_⟩
    by_cases z : q0.1 + 1 = i
    · exact Or.inr (fun y => h3 ⟨z, y⟩)
    · exact Or.inl z
theorem q_lt {a b : Nat} (h : Nat.ble (a + 1) b = true) : a < b := Nat.le_of_ble_eq_true h
/-- a cell of the world, as the kit has it -/
theorem q_cell {cy : Nat → ClassId} {ad xd : Nat → Nat} {aw : List q_C} {p : Nat} {c : q_C} (h : q_at aw p = some c) : (q_cw cy ad xd 0 aw)[p]? = some (ad p, q_cE cy ad xd c) := by
  rw [q_cw_get, ← q_at_eq, h, Nat.zero_add]; rfl
section QS
variable {p : Program} {l : Launch} {e : Env} {R : Room} {s : State} {m : MethodId} {args : Array Value} {below : List Frame} {meth : Method} {c : Code} {own : String} {cc : ByteArray} {D : va_G} {cy : Nat → ClassId} {xd xv : Nat → Nat} {A : Nat → Prop} {n0 : Nat} {ad0 : Nat → Nat} {Q : State → Prop} {E : q_E}
theorem q_athrow {H : Heap} {locs : List Loc} {ca sl pc q : Nat} {ls : Array Slot} {rest : List Value} (hx : p.tables.exec = Jvm.exec) (hb : c.code = cc) (hd : decode cc pc = .ok (.athrow, 1)) (k : qx_W p l e R s m args below meth c H locs ca sl Q (F0 m pc ls rest) q) : W p l e R s m args below meth c H locs ca sl Q (F0 m pc ls (.ref q :: rest)) := by
  intro T hT X
  obtain ⟨t, a1, b1⟩ := k T hT X
  refine ⟨t, ?_, b1⟩
  jvm_step X.here [hx, hb, hd, athrow.wp_sem]
  exact a1
end QS
