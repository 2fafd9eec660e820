/-! ===== what stands around every method: texts, statics, nest mates' words ===== -/
def q_ROOM : Nat → Int32
  | 0 => 8
  | 1 => 5
  | 2 => 6
  | _ => 6
def q_str : List (String × Nat × String × List Int32) := [("BridgeStrip$Reader", 25, "law", [108, 97, 119]), ("BridgeStrip$Reader", 9, "place", [112, 108, 97, 99, 101]), ("BridgeStrip$Reader", 17, "land", [108, 97, 110, 100]), ("BridgeStrip$Reader", 19, "office", [111, 102, 102, 105, 99, 101]), ("BridgeStrip$Reader", 21, "kind", [107, 105, 110, 100]), ("BridgeStrip$Reader", 23, "road", [114, 111, 97, 100]), ("BridgeStrip$Reader", 27, "gift", [103, 105, 102, 116]), ("BridgeStrip$Reader", 29, "ask", [97, 115, 107]), ("BridgeStrip$Reader", 31, "until", [117, 110, 116, 105, 108]), ("BridgeStrip$Reader", 33, "if", [105, 102]), ("BridgeStrip$Reader", 175, "takes", [116, 97, 107, 101, 115]), ("BridgeStrip$Reader", 177, "bars", [98, 97, 114, 115]), ("BridgeStrip$Reader", 179, "of", [111, 102]), ("BridgeStrip$Reader", 181, "since", [115, 105, 110, 99, 101]), ("BridgeStrip$Reader", 142, "days", [100, 97, 121, 115]), ("BridgeStrip$Reader", 150, "coin", [99, 111, 105, 110]), ("BridgeStrip$Reader", 162, "by", [98, 121]), ("BridgeStrip$Reader", 193, "after", [97, 102, 116, 101, 114]), ("BridgeStrip$Reader", 204, "born", [98, 111, 114, 110]), ("BridgeStrip$Reader", 209, "parent", [112, 97, 114, 101, 110, 116]), ("BridgeStrip$Reader", 211, "holds", [104, 111, 108, 100, 115]), ("BridgeStrip", 324, "no such person, place or day", [110, 111, 32, 115, 117, 99, 104, 32, 112, 101, 114, 115, 111, 110, 44, 32, 112, 108, 97, 99, 101, 32, 111, 114, 32, 100, 97, 121]), ("BridgeStrip", 333, "no such place on the way", [110, 111, 32, 115, 117, 99, 104, 32, 112, 108, 97, 99, 101, 32, 111, 110, 32, 116, 104, 101, 32, 119, 97, 121]), ("BridgeStripModel", 179, "place", [112, 108, 97, 99, 101]), ("BridgeStripModel", 184, "land", [108, 97, 110, 100]), ("BridgeStripModel", 186, "office", [111, 102, 102, 105, 99, 101]), ("BridgeStripModel", 188, "kind", [107, 105, 110, 100]), ("BridgeStripModel", 189, "road", [114, 111, 97, 100]), ("BridgeStripModel", 191, "law", [108, 97, 119]), ("BridgeStripModel", 193, "gift", [103, 105, 102, 116]), ("BridgeStripModel", 195, "ask", [97, 115, 107]), ("BridgeStripModel", 197, "until", [117, 110, 116, 105, 108]), ("BridgeStripModel", 199, "if", [105, 102]), ("BridgeStripModel", 267, "days", [100, 97, 121, 115]), ("BridgeStripModel", 279, "coin", [99, 111, 105, 110]), ("BridgeStripModel", 289, "by", [98, 121]), ("BridgeStripModel", 303, "takes", [116, 97, 107, 101, 115]), ("BridgeStripModel", 305, "bars", [98, 97, 114, 115]), ("BridgeStripModel", 310, "of", [111, 102]), ("BridgeStripModel", 315, "since", [115, 105, 110, 99, 101]), ("BridgeStripModel", 334, "after", [97, 102, 116, 101, 114]), ("BridgeStripModel", 344, "born", [98, 111, 114, 110]), ("BridgeStripModel", 346, "parent", [112, 97, 114, 101, 110, 116]), ("BridgeStripModel", 348, "holds", [104, 111, 108, 100, 115])]
def q_sOk (xd xv : Nat → Nat) (A : Nat → Prop) (U : State) (H : Heap) (i : Nat) (x : String × Nat × String × List Int32) : Prop :=
  vk_R x.1 x.2.1 x.2.2.1 (xd i) U ∧ va_O "java/lang/String" (xd i) A U H ∧ va_OF "java/lang/String" "coder" "B" (.int 0) (xd i) A U H ∧ va_OF "java/lang/String" "value" "[B" (.ref (xd (45 + i))) (xd i) A U H ∧ va_T .byte (xd (45 + i)) x.2.2.2.length (fun j => .int (x.2.2.2.getD j 0)) A U H
def q_Fm (xd : Nat → Nat) (A : Nat → Prop) (U : State) (H : Heap) : Prop := va_Z "jdk/internal/util/Preconditions" "SIOOBE_FORMATTER" "Ljava/util/function/BiFunction;" .null A U H ∨ va_Z "jdk/internal/util/Preconditions" "SIOOBE_FORMATTER" "Ljava/util/function/BiFunction;" (.ref (xd 89)) A U H
def q_Amb (xd xv : Nat → Nat) (A : Nat → Prop) (U : State) (H : Heap) : Prop :=
  (∀ i x, q_str[i]? = some x → q_sOk xd xv A U H i x) ∧ va_Z RX0 "ROOM" "[I" (.ref (xd 44)) A U H ∧ va_T .int (xd 44) 4 (fun j => .int (q_ROOM j)) A U H ∧ va_Z "java/lang/String" "COMPACT_STRINGS" "Z" (.int 1) A U H ∧
  q_Fm xd A U H ∧ qx_Zq Bundle.tN "UNASSIGNED_STACK" Bundle.steD A U H ∧ qx_Zq Bundle.tN "SUPPRESSED_SENTINEL" Bundle.listD A U H ∧ ∀ w ∈ q_nest, va_Nw w U
theorem q_Amb.move {xd xv : Nat → Nat} {A B : Nat → Prop} {s U : State} (h : q_Amb xd xv A s s.heap) (hW : s.WarmedH U.vm) (hq : ∀ a : Nat, a < s.heap.size → ¬ A a → U.heap[a]? = s.heap[a]?) (hAB : ∀ q, B q → A q) : q_Amb xd xv B U U.heap := by
  obtain ⟨h1, h2, h3, h4, h5, h6, h7, h8⟩ := h
  refine ⟨fun i x hx => ?_, ((h2.kept hq).narrow hAB).moved hW.alike, ((h3.kept hq).narrow hAB).moved hW.alike, ((h4.kept hq).narrow hAB).moved hW.alike, h5.elim (fun h => Or.inl (((h.kept hq).narrow hAB).moved hW.alike)) (fun h => Or.inr (((h.kept hq).narrow hAB).moved hW.alike)), ((h6.kept hq).narrow hAB).moved hW.alike, ((h7.kept hq).narrow hAB).moved hW.alike, fun w hw => ?_⟩
  · obtain ⟨a1, a2, a3, a4, a5⟩ := h1 i x hx
    exact ⟨a1.warm hW, ((a2.kept hq).narrow hAB).moved hW.alike, ((a3.kept hq).narrow hAB).moved hW.alike, ((a4.kept hq).narrow hAB).moved hW.alike, ((a5.kept hq).narrow hAB).moved hW.alike⟩
  · have hN := h8 w hw
    have hb := (List.mem_filter.mp hw).2
    cases w <;> first | exact va_Nw.warmF hW hN | exact va_Nw.warmM hW hN | (simp [q_isN] at hb)
theorem q_str_lt {i : Nat} {x : String × Nat × String × List Int32} (h : q_str[i]? = some x) : i < 44 := (List.getElem?_eq_some_iff.mp h).1
theorem q_Amb.xd {xd xd' xv : Nat → Nat} {A : Nat → Prop} {U : State} {H : Heap} (h : q_Amb xd xv A U H) (he : ∀ e, e < 100 → xd' e = xd e) : q_Amb xd' xv A U H := by
  obtain ⟨h1, h2, h3, h4, h5, h6⟩ := h
  refine ⟨fun i x hx => ?_, by rw [he 44 (by omega)]; exact h2, by rw [he 44 (by omega)]; exact h3, h4, by unfold q_Fm; rw [he 89 (by omega)]; exact h5, h6⟩
  have hi := q_str_lt hx
  have h9 := h1 i x hx
  unfold q_sOk at h9 ⊢
  rw [he i (by omega), he (45 + i) (by omega)]
  exact h9
/-- a room of depth d -/
def q_rm (d mc ms : Nat) : Room := { frames := d, cells := mc, slots := ms, locals := 64 * d }
/-- a method's start, its return, its throw -/
def q_Pc (D : va_G) (cy : Nat → ClassId) (ad xd xv : Nat → Nat) (a : List Value) (w : List q_C) (sz : Nat) : Array Value → State → Prop :=
  va_Pc (a.map (q_cv ad xd)) (fun U => U.heap.size = sz ∧ va_P D vwCl (q_cw cy ad xd 0 w) U.heap ∧ va_K D vwCl (q_tys cy) U ∧ va_D (fun _ => True) (q_cw cy ad xd 0 w) ∧ q_Amb xd xv (va_A (q_cw cy ad xd 0 w) sz) U U.heap)
def q_End (D : va_G) (cy : Nat → ClassId) (ad xd : Nat → Nat) (n : Nat) (A : Nat → Prop) (w' : List q_C) (ad' : Nat → Nat) (t : State) : Prop :=
  (∀ i, i < n → ad' i = ad i) ∧ va_P D vwCl (q_cw cy ad' xd 0 w') t.heap ∧ va_D A (q_cw cy ad' xd 0 w')
def q_Qc (D : va_G) (cy : Nat → ClassId) (ad xd : Nat → Nat) (n : Nat) (K : q_K) (A : Nat → Prop) : Array Value → State → Outcome → State → Prop := fun _ st oc t =>
  (∃ (r : Option Value) (w' : List q_C) (ad' : Nat → Nat), oc = .returned (r.map (q_cv ad' xd)) ∧ K (.inl r) w' ∧ q_End D cy ad xd n A w' ad' t) ∧ va_F A st t
def q_XC (D : va_G) (cy : Nat → ClassId) (ad xd : Nat → Nat) (n : Nat) (K : q_K) (A : Nat → Prop) : String → Addr → State → State → Prop := fun E q st t =>
  (E = RX13 ∧ ∃ (p : Nat) (fs : List Value) (w' : List q_C) (ad' : Nat → Nat), q = ad' p ∧ w'[p]? = some (.inr (13, fs)) ∧ K (.inr (.ref p)) w' ∧ q_End D cy ad xd n A w' ad' t) ∧ va_F A st t
/-- THE CONTRACT of a method: w0 its code's word, sp what it does -/
def q_CT (l : Launch) (y : MethodName) (w0 : Cond) (d mc ms : Nat) (sp : q_P) : Prop :=
  ∀ (D : va_G) (cy : Nat → ClassId) (ad xd xv : Nat → Nat) (a : List Value) (w : List q_C) (K : q_K) (sz : Nat), sp a w K →
    qx_Met l y (w0 :: q_G) (q_rm d mc ms) (q_Pc D cy ad xd xv a w sz) (q_Qc D cy ad xd w.length K (va_A (q_cw cy ad xd 0 w) sz)) (q_XC D cy ad xd w.length K (va_A (q_cw cy ad xd 0 w) sz)) mc ms (va_A (q_cw cy ad xd 0 w) sz)
theorem q_Pc_blind {D : va_G} {cy : Nat → ClassId} {ad xd xv : Nat → Nat} {a : List Value} {w : List q_C} {sz : Nat} : FrameBlind (q_Pc D cy ad xd xv a w sz) := by
  intro a' U g mk q
  obtain ⟨q0, q1, qP, qK, qD, qA⟩ := q
  exact ⟨q0, q1, qP, va_K.moved (u := U) (U := U.calling g mk a') (Vm.Alike.refl U.vm) qK, qD, q_Amb.move (U := U.calling g mk a') qA (State.WarmedH.refl U) (fun _ _ _ => rfl) (fun _ h => h)⟩
/-- a method whose entry i in own's file is known, what it does with its contract -/
def q_CO (l : Launch) (own : String) (idx : Nat) (cs : q_S) : Prop := match cs with
  | (n, rc, d, mL, mc, ms, _, sp) => ∃ (y : MethodName) (bytes : ByteArray) (ret : Option FieldType) (np : Nat),
    (y.cls ≠ "java/lang/invoke/MethodHandle" ∧ y.cls ≠ "java/lang/invoke/VarHandle" ∧ (parseMethodDescriptor y.desc).map (fun d => d.parameters.length) = some np) ∧ Cond.initialized y.cls ∈ q_G ∧
    ((rc ≤ 96 ∧ n = np + 1 ∧ (vwCl[rc]?).map (fun q => q.1) = some y.cls ∧ Cond.methodLink own idx y ∈ q_G ∧ Cond.instanceMethod y ∈ q_G ∧ Cond.selects y.cls y y ∈ q_G ∧
        ((Cond.code y bytes mL ret ∈ q_G ∧ q_CT l y (.code y bytes mL ret) d mc ms sp) ∨ ∃ hh, Cond.codeWith y bytes mL ret hh ∈ q_G ∧ q_CT l y (.codeWith y bytes mL ret hh) d mc ms sp))
      ∨ (rc = 97 ∧ n = np + 1 ∧ ret = none ∧ y.name = "<init>" ∧ (Cond.methodLink own idx y ∈ q_G ∨ ∃ host, Cond.methodLinkNest own idx y host ∈ q_nest) ∧ Cond.instanceMethod y ∈ q_G ∧ Cond.code y bytes mL ret ∈ q_G ∧ q_CT l y (.code y bytes mL ret) d mc ms sp)
      ∨ (rc = 98 ∧ n = np + 1 ∧ y.cls = "java/lang/String" ∧ Cond.methodLink own idx y ∈ q_G ∧ Cond.instanceMethod y ∈ q_G ∧ Cond.selects y.cls y y ∈ q_G ∧ Cond.code y bytes mL ret ∈ q_G ∧ q_CT l y (.code y bytes mL ret) d mc ms sp)
      ∨ (rc = 99 ∧ n = np ∧ Cond.methodLink own idx y ∈ q_G ∧ Cond.static y ∈ q_G ∧
        ((Cond.code y bytes mL ret ∈ q_G ∧ q_CT l y (.code y bytes mL ret) d mc ms sp) ∨ ∃ hh, Cond.codeWith y bytes mL ret hh ∈ q_G ∧ q_CT l y (.codeWith y bytes mL ret hh) d mc ms sp)))
def q_scok (own : String) (f : Nat × Nat) : Prop := ∃ x, q_str[f.2]? = some x ∧ x.1 = own ∧ x.2.1 = f.1
def q_nwok (own : String) (f : Nat × Nat) : Prop := ∃ (C : String) (T : u_T) (N : Nat), vwCl[f.2]? = some (C, T, N) ∧ N = q_cin f.2 ∧ Cond.classLink own f.1 C ∈ q_G ∧ Cond.instantiable C N ∈ q_G ∧ Cond.initialized C ∈ q_G
/-- what has to stand behind a method's rows: nothing of it speaks of a state -/
def q_Eok (l : Launch) (own : String) (cc : ByteArray) (E : q_E) : Prop :=
  (q_code E).all (q_okI cc) = true ∧ (∀ f ∈ q_fl E, q_flok own f) ∧ (∀ f ∈ q_sg E, q_CO l own f.1 f.2) ∧ (∀ f ∈ q_lc E, Cond.constantLong own f.1 f.2 ∈ q_G) ∧ (∀ f ∈ q_kc E, Cond.constant own f.1 f.2 ∈ q_G) ∧ (∀ f ∈ q_sc E, q_scok own f) ∧
  (∀ f ∈ q_gs E, (f.2 = 44 ∧ Cond.fieldLink own f.1 RX0 "ROOM" "[I" ∈ q_G) ∨ (f.2 = 1 ∧ Cond.methodLink own f.1 Lib.Math.max.name ∈ q_G) ∨ (f.2 = 2 ∧ Cond.methodLink own f.1 Lib.Math.min.name ∈ q_G)) ∧ (∀ f ∈ q_nw E, q_nwok own f) ∧ (1 ≤ q_oi E → Cond.methodLink own (q_oi E) objectInit ∈ q_G)
theorem q_cls : ∀ (ci : Nat) (q : vw_C), vwCl[ci]? = some q → (∀ w ∈ u_ws q.1 q.2.1 q.2.2, w ∈ q_G) ∧ (∀ k, k < q.2.2 → parseFieldDescriptor (q.2.1 k).2.2.1 = some (q_fty ci k)) ∧ (∀ a, a < q.2.2 → ∀ b, b < q.2.2 → a ≠ b → (q.2.1 a).2.1 ≠ (q.2.1 b).2.1)
  | 0, q, h => by cases h; exact ⟨wsX0_ok, tyX0_ok, nmX0⟩
  | 1, q, h => by cases h; exact ⟨wsX1_ok, tyX1_ok, nmX1⟩
  | 2, q, h => by cases h; exact ⟨wsX2_ok, tyX2_ok, nmX2⟩
  | 3, q, h => by cases h; exact ⟨wsX3_ok, tyX3_ok, nmX3⟩
  | 4, q, h => by cases h; exact ⟨wsX4_ok, tyX4_ok, nmX4⟩
  | 5, q, h => by cases h; exact ⟨wsX5_ok, tyX5_ok, nmX5⟩
  | 6, q, h => by cases h; exact ⟨wsX6_ok, tyX6_ok, nmX6⟩
  | 7, q, h => by cases h; exact ⟨wsX7_ok, tyX7_ok, nmX7⟩
  | 8, q, h => by cases h; exact ⟨wsX8_ok, tyX8_ok, nmX8⟩
  | 9, q, h => by cases h; exact ⟨wsX9_ok, tyX9_ok, nmX9⟩
  | 10, q, h => by cases h; exact ⟨wsX10_ok, tyX10_ok, nmX10⟩
  | 11, q, h => by cases h; exact ⟨wsX11_ok, tyX11_ok, nmX11⟩
  | 12, q, h => by cases h; exact ⟨wsX12_ok, tyX12_ok, nmX12⟩
  | 13, q, h => by cases h; exact ⟨wsX13_ok, tyX13_ok, nmX13⟩
  | 14, q, h => by cases h; exact ⟨wsX14_ok, tyX14_ok, nmX14⟩
  | n + 15, q, h => by simp [vwCl] at h
