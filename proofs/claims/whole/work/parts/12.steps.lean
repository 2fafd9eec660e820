/-! ===== every step is sound ===== -/
theorem q_mx1 : Cond.static Lib.Math.max.name ∈ q_G := q_G_i 1030 (by decide +kernel) rfl
theorem q_mx2 : Cond.code Lib.Math.max.name Lib.Math.max.code 2 (some .int) ∈ q_G := q_G_i 1031 (by decide +kernel) rfl
theorem q_mn1 : Cond.static Lib.Math.min.name ∈ q_G := q_G_i 570 (by decide +kernel) rfl
theorem q_mn2 : Cond.code Lib.Math.min.name Lib.Math.min.code 2 (some .int) ∈ q_G := q_G_i 571 (by decide +kernel) rfl
theorem q_mi : Cond.initialized "java/lang/Math" ∈ q_G := q_G_i 22 (by decide +kernel) rfl
theorem q_oi1 : Cond.instanceMethod objectInit ∈ q_G := q_G_i 32 (by decide +kernel) rfl
theorem q_oi2 : Cond.code objectInit ⟨#[0xb1]⟩ 1 none ∈ q_G := q_G_i 33 (by decide +kernel) rfl
theorem q_arr (a9 : ArrayType) (ty : FieldType) {cy : Nat → ClassId} (kn : Nat) (hty : newarray.typeOf a9 = ty) (hk : (q_tys cy)[kn]? = some (cy kn, ty)) : Cond.arrayClass (newarray.typeOf a9) ∈ q_G := by
  rw [hty]
  match kn, hk with
  | 0, hk => cases hk; exact q_G_i 85 (by decide +kernel) rfl
  | 1, hk => cases hk; exact q_G_i 86 (by decide +kernel) rfl
  | 2, hk => cases hk; exact q_G_i 87 (by decide +kernel) rfl
  | 3, hk => cases hk; exact q_G_i 121 (by decide +kernel) rfl
  | n + 4, hk => simp [q_tys] at hk
section QT
variable {p : Program} {l : Launch} {e : Env} {R : Room} {s : State} {m : MethodId} {args : Array Value} {below : List Frame} {meth : Method} {c : Code} {own : String} {cc : ByteArray} {D : va_G} {cy : Nat → ClassId} {xd xv : Nat → Nat} {A : Nat → Prop} {n0 : Nat} {ad0 : Nat → Nat} {Q : State → Prop} {E : q_E}
/-- what a method owes where it returns -/
def q_Rt (p : Program) (l : Launch) (e : Env) (R : Room) (s : State) (m : MethodId) (args : Array Value) (below : List Frame) (meth : Method) (c : Code) (cc : ByteArray) (D : va_G) (cy : Nat → ClassId) (xd : Nat → Nat) (A : Nat → Prop) (n0 : Nat) (ad0 : Nat → Nat) (E : q_E) (Q : State → Prop) (z : q_K) : Prop :=
  (∀ (pc : Nat) (lv : q_L) (x : Int32) (ty : FieldType) (aw : List q_C) (ca sl : Nat), decode cc pc = .ok (.ireturn, 1) → q_rt E = some ty → narrow ty (.int x) = .int x → z (.inl (some (.int x))) aw → q_W p l e R s m args below meth c D cy xd A n0 ad0 (q_nL E) Q pc lv [.int x] aw ca sl) ∧
  (∀ (pc : Nat) (lv : q_L) (x : Int64) (aw : List q_C) (ca sl : Nat), decode cc pc = .ok (.lreturn, 1) → q_rt E = some .long → z (.inl (some (.long x))) aw → q_W p l e R s m args below meth c D cy xd A n0 ad0 (q_nL E) Q pc lv [.long x] aw ca sl) ∧
  (∀ (pc : Nat) (lv : q_L) (x : Nat) (t : String) (aw : List q_C) (ca sl : Nat), decode cc pc = .ok (.areturn, 1) → q_rt E = some (.object t) → z (.inl (some (.ref x))) aw → q_W p l e R s m args below meth c D cy xd A n0 ad0 (q_nL E) Q pc lv [.ref x] aw ca sl) ∧
  (∀ (pc : Nat) (lv : q_L) (aw : List q_C) (ca sl : Nat), decode cc pc = .ok (.return_, 1) → q_rt E = none → z (.inl none) aw → q_W p l e R s m args below meth c D cy xd A n0 ad0 (q_nL E) Q pc lv [] aw ca sl)
theorem q_ci {ci cj : Nat} (h : Nat.beq ci cj = true) : ci = cj := Nat.eq_of_beq_eq_true h
theorem q_setF {ad xd : Nat → Nat} {fs : List Value} {j : Nat} {v : Value} : (fs.map (q_cv ad xd)).set j (q_cv ad xd v) = (fs.set j v).map (q_cv ad xd) := by rw [List.map_set]
theorem q_bool {v : Int32} (h : narrow .boolean (.int v) = .int v) : v = 0 ∨ v = 1 := by
  have h1 : v &&& 1 = v := Value.int.inj h
  obtain ⟨j, hj, e⟩ := pk_andE v (m := 1) 1 (by decide)
  rw [h1] at e
  rcases (show j = 0 ∨ j = 1 by omega) with rfl | rfl
  · exact Or.inl e
  · exact Or.inr e
theorem q_fit_ok {ad xd : Nat → Nat} {ty : FieldType} {v : Value} {k : Prop} (h : q_fit ty v k) : narrow ty (q_cv ad xd v) = q_cv ad xd v ∧ fits ty (q_cv ad xd v) = true ∧ k := by
  cases ty <;> cases v <;> first | exact (h : False).elim | exact ⟨rfl, rfl, h⟩ | (obtain ⟨h1, h2⟩ := h; exact ⟨h1, by rcases q_bool h1 with rfl | rfl <;> rfl, h2⟩)
theorem q_tsw_ok {pc : Nat} {x : Int32} {k : Nat → Prop} : ∀ (l : List Int) (j : Int), q_tsw pc x k l j → ∀ (i : Nat) (o : Int), l[i]? = some o → x.toInt = j + i → k ((pc : Int) + o).toNat
  | [], j, _, i, o, h, _ => by simp at h
  | a :: l, j, h, i, o, ho, hx => by
    cases i with
    | zero => cases ho; exact h.1 (by simpa using hx)
    | succ i => exact q_tsw_ok l (j + 1) h.2 i o ho (by rw [hx]; omega)
theorem q_dvs_ok {f : Nat → FieldType} : ∀ (n i : Nat) (ns : List Nat) (k : List Value → Prop), (∀ j a, ns[j]? = some a → a = i + j) → q_dvs f ns n k → ∃ l, k l ∧ l.length = n ∧ ∀ j, j < n → l[j]? = some (defaultValue (f (i + j))) ∧ ∀ ad xd, q_cv ad xd (defaultValue (f (i + j))) = defaultValue (f (i + j))
  | 0, i, ns, k, _, h => ⟨[], by simpa [q_dvs] using h, rfl, fun j hj => absurd hj (Nat.not_lt_zero j)⟩
  | n + 1, i, [], k, _, h => (h : False).elim
  | n + 1, i, a :: ns, k, hn, h => by
    have ha : a = i := by have := hn 0 a rfl; simpa using this
    subst ha
    have hn' : ∀ (j b : Nat), ns[j]? = some b → b = a + 1 + j := fun j b hb => by have := hn (j + 1) b hb; omega
    have go : ∀ (v : Value), defaultValue (f a) = v → (∀ ad xd, q_cv ad xd v = v) → q_dvs f ns n (fun l => k (v :: l)) → ∃ l, k l ∧ l.length = n + 1 ∧ ∀ j, j < n + 1 → l[j]? = some (defaultValue (f (a + j))) ∧ ∀ ad xd, q_cv ad xd (defaultValue (f (a + j))) = defaultValue (f (a + j)) := by
      intro v hv hcv h
      obtain ⟨l, h1, h2, h3⟩ := q_dvs_ok n (a + 1) ns _ hn' h
      refine ⟨v :: l, h1, by rw [List.length_cons, h2], fun j hj => ?_⟩
      cases j with
      | zero => rw [Nat.add_zero, hv]; exact ⟨rfl, hcv⟩
      | succ j =>
        have := h3 j (by omega)
        rw [show a + 1 + j = a + (j + 1) by omega] at this
        exact this
    simp only [q_dvs] at h
    split at h
    · next hf => exact go _ (by rw [hf]; rfl) (fun _ _ => rfl) h
    · next hf => exact go _ (by rw [hf]; rfl) (fun _ _ => rfl) h
    · next hf => exact go _ (by rw [hf]; rfl) (fun _ _ => rfl) h
    · next hf => exact go _ (by rw [hf]; rfl) (fun _ _ => rfl) h
    · next hf => exact go _ (by rw [hf]; rfl) (fun _ _ => rfl) h
    · exact h.elim
theorem q_hdN_ok : ∀ (ns : List Nat) (i : Nat) (k : Nat → Prop), q_hdN ns i k → ∃ n, k n ∧ ns[i]? = some n
  | [], i, k, h => (h : False).elim
  | a :: ns, 0, k, h => ⟨a, h, rfl⟩
  | a :: ns, i + 1, k, h => q_hdN_ok ns i k h
theorem q_cw_app {cy : Nat → ClassId} {ad xd : Nat → Nat} : ∀ (l : List q_C) (i : Nat) (c : q_C), q_cw cy ad xd i (l ++ [c]) = q_cw cy ad xd i l ++ [(ad (i + l.length), q_cE cy ad xd c)]
  | [], i, c => rfl
  | d :: l, i, c => by
    rw [List.cons_append, q_cw, q_cw, q_cw_app l (i + 1) c, List.cons_append, List.length_cons, show i + 1 + l.length = i + (l.length + 1) by omega]
/-- a new cell at the world's end -/
theorem q_grow {cy : Nat → ClassId} {ad xd : Nat → Nat} {aw : List q_C} (q : Nat) (hv : q_vw aw.length aw = true) : ∃ ad2 : Nat → Nat, (∀ p, p < aw.length → ad2 p = ad p) ∧ ad2 aw.length = q ∧ q_cw cy ad2 xd 0 aw = q_cw cy ad xd 0 aw := by
  refine ⟨fun i => if i < aw.length then ad i else q, fun p hp => if_pos hp, if_neg (Nat.lt_irrefl _), ?_⟩
  apply List.ext_getElem?
  intro k
  rw [q_cw_get, q_cw_get]
  cases hc : aw[k]? with
  | none => rfl
  | some c =>
    have hk : k < aw.length := (List.getElem?_eq_some_iff.mp hc).1
    have e9 := q_vw_ok (cy := cy) (xd := xd) (ad := ad) (ad2 := fun i => if i < aw.length then ad i else q) (fun p hp => if_pos hp) hv k c hc
    simp only [Option.map_some, Nat.zero_add, if_pos hk, e9]
theorem q_ldcW {H : Heap} {locs : List Loc} {cells slots pc : Nat} {ls : Array Slot} {rest : List Value} (hexec : p.tables.exec = Jvm.exec) (hb : c.code = cc) {own tx : String} {index q : Nat} (hown : s.vm.findClass own = some m.cls) (hZ : vk_R own index tx q s) (hdg : decode cc pc = .ok (.ldc_w index, 3))
    (k : W p l e R s m args below meth c H locs cells slots Q (F0 m (pc + 3) ls (.ref q :: rest))) : W p l e R s m args below meth c H locs cells slots Q (F0 m pc ls rest) := by
  intro T hT X
  obtain ⟨t, a1, b1⟩ := k T hT X
  exact ⟨t, X.ldcStringW hexec hown (text := tx) (a := q) hZ.1 hZ.2 (g := F0 m pc ls rest) rfl (by rw [hb]; exact hdg) t a1, b1⟩
end QT
