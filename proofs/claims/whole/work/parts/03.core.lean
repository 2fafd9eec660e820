/-! ===== the abstract machine: cells by places, steps as predicate transformers; every text here is ours ===== -/
abbrev q_C : Type := (Nat × Nat × ((Nat → Int32) ⊕ (Nat → Int64))) ⊕ (Nat × List Value)
abbrev q_L : Type := List (Nat × Value)
abbrev q_O : Type := Option Value ⊕ Value
abbrev q_K : Type := q_O → List q_C → Prop
abbrev q_N : Type := Nat → q_L → List Value → List q_C → Nat → Nat → Prop
abbrev q_I : Type := Nat × Instr × Nat × Int32 × Nat
abbrev q_P : Type := List Value → List q_C → q_K → Prop
/-- a callee: arguments, receiver (a class; 97 a new object, 98 a text, 99 none), depth, locals, cells, slots, footprint, what it does -/
abbrev q_S : Type := Nat × Nat × Nat × Nat × Nat × Nat × List (Nat ⊕ (Nat × Nat)) × q_P
/-- good words of the tables -/
def q_G : List Cond := lw_tbl.filter goodWord
theorem q_G_mem {w : Cond} (h : w ∈ lw_tbl) (hg : goodWord w = true) : w ∈ q_G := List.mem_filter.mpr ⟨h, hg⟩
theorem q_G_i {w : Cond} (i : Nat) (h : tables_1[i]? = some w) (hg : goodWord w = true) : w ∈ q_G := q_G_mem (List.mem_append_right _ (List.mem_of_getElem? h)) hg
theorem q_G_s {y : MethodName} (i : Nat) {n : Nat} (h : lw_privs[i]? = some (y, n)) : Cond.selects y.cls y y ∈ q_G :=
  q_G_mem (List.mem_append_left _ (List.mem_map.mpr ⟨(y, n), List.mem_of_getElem? h, rfl⟩)) rfl
theorem q_G_good {ws : List Cond} (h : ∀ w ∈ ws, w ∈ q_G) : GoodIn q_G ws := fun w hw => ⟨h w hw, good_of_word (List.mem_filter.mp (h w hw)).2⟩
/-- kinds of arrays -/
def q_kt : Nat → FieldType
  | 0 => .byte
  | 1 => .int
  | 2 => .long
  | _ => .boolean
def q_tys (cy : Nat → ClassId) : List (ClassId × FieldType) := [(cy 0, .byte), (cy 1, .int), (cy 2, .long), (cy 3, .boolean)]
def q_cv (ad xd : Nat → Nat) : Value → Value
  | .int x => .int x
  | .long x => .long x
  | .float x => .float x
  | .double x => .double x
  | .null => .null
  | .ref p => .ref (ad p)
  | .retAddr e => .ref (xd e)
theorem q_cv_cat (ad xd : Nat → Nat) (v : Value) : (q_cv ad xd v).category = v.category := by cases v <;> rfl
def q_cp (ad xd : Nat → Nat) (q : Nat × Value) : Nat × Value := (q.1, q_cv ad xd q.2)
def q_cE (cy : Nat → ClassId) (ad xd : Nat → Nat) : q_C → va_E
  | .inl (k, n, .inl f) => .inl (cy k, n, .inl f)
  | .inl (k, n, .inr f) => .inl (cy k, n, .inr (.inl f))
  | .inr (c, fs) => .inr (c, fs.map (q_cv ad xd))
def q_cw (cy : Nat → ClassId) (ad xd : Nat → Nat) : Nat → List q_C → va_W
  | _, [] => []
  | i, c :: l => (ad i, q_cE cy ad xd c) :: q_cw cy ad xd (i + 1) l
theorem q_cw_get {cy : Nat → ClassId} {ad xd : Nat → Nat} : ∀ (l : List q_C) (i k : Nat), (q_cw cy ad xd i l)[k]? = (l[k]?).map (fun c => (ad (i + k), q_cE cy ad xd c))
  | [], i, k => by simp [q_cw]
  | c :: l, i, 0 => by simp [q_cw]
  | c :: l, i, k + 1 => by
    rw [q_cw, List.getElem?_cons_succ, List.getElem?_cons_succ, q_cw_get l (i + 1) k]
    rw [show i + 1 + k = i + (k + 1) by omega]
theorem q_cw_len {cy : Nat → ClassId} {ad xd : Nat → Nat} : ∀ (l : List q_C) (i : Nat), (q_cw cy ad xd i l).length = l.length
  | [], i => rfl
  | c :: l, i => by rw [q_cw, List.length_cons, List.length_cons, q_cw_len l (i + 1)]
theorem q_cw_set {cy : Nat → ClassId} {ad xd : Nat → Nat} (l : List q_C) (p : Nat) (c : q_C) : (q_cw cy ad xd 0 l).set p (ad p, q_cE cy ad xd c) = q_cw cy ad xd 0 (l.set p c) := by
  apply List.ext_getElem?
  intro k
  rw [q_cw_get, List.getElem?_set, List.getElem?_set, q_cw_get, q_cw_len]
  by_cases h : p = k
  · subst h
    by_cases h2 : p < l.length
    · simp [h2]
    · simp [h2]
  · simp [h]
/-- lists, by places -/
def q_at {α : Type} : List α → Nat → Option α
  | [], _ => none
  | c :: _, 0 => some c
  | _ :: l, n + 1 => q_at l n
theorem q_at_eq {α : Type} : ∀ (l : List α) (n : Nat), q_at l n = l[n]?
  | [], n => by simp [q_at]
  | c :: l, 0 => by simp [q_at]
  | c :: l, n + 1 => by rw [q_at, q_at_eq l n, List.getElem?_cons_succ]
def q_set {α : Type} (c : α) : List α → Nat → (List α → Prop) → Prop
  | [], _, _ => False
  | _ :: l, 0, k => k (c :: l)
  | d :: l, n + 1, k => q_set c l n (fun l' => k (d :: l'))
theorem q_set_eq {α : Type} (c : α) : ∀ (l : List α) (n : Nat) (k : List α → Prop), q_set c l n k → n < l.length ∧ k (l.set n c)
  | [], n, k, h => h.elim
  | d :: l, 0, k, h => ⟨Nat.succ_pos _, h⟩
  | d :: l, n + 1, k, h => by
    obtain ⟨h1, h2⟩ := q_set_eq c l n _ h
    exact ⟨Nat.succ_lt_succ h1, h2⟩
/-- the locals -/
def q_lk {α : Type} (i : Nat) : List (Nat × α) → Option α
  | [] => none
  | (j, v) :: l => match Nat.beq j i with
    | true => some v
    | false => q_lk i l
theorem q_lk_mem {α : Type} {i : Nat} {v : α} : ∀ {l : List (Nat × α)}, q_lk i l = some v → (i, v) ∈ l
  | [], h => by simp [q_lk] at h
  | (j, w) :: l, h => by
    rw [q_lk] at h
    split at h
    · next hb => cases h; rw [Nat.eq_of_beq_eq_true hb]; exact List.mem_cons_self
    · exact List.mem_cons_of_mem _ (q_lk_mem h)
def q_put (i : Nat) (v : Value) (two : Bool) : q_L → Bool → (q_L → Prop) → Prop
  | [], f, k => match f with
    | false => k [(i, v)]
    | true => k []
  | (j, w) :: l, f, k => match Nat.beq j i with
    | true => match f with
      | true => q_put i v two l true k
      | false => q_put i v two l true (fun l' => k ((i, v) :: l'))
    | false => match (Nat.beq (j + 1) i && Nat.beq w.category 2) || (two && Nat.beq j (i + 1)) with
      | true => q_put i v two l f k
      | false => q_put i v two l f (fun l' => k ((j, w) :: l'))
def q_keep (i : Nat) (two : Bool) (q : Nat × Value) : Prop := q.1 ≠ i ∧ ¬ (q.1 + 1 = i ∧ q.2.category = 2) ∧ (two = true → q.1 ≠ i + 1)
theorem q_put_ok (i : Nat) (v : Value) (two : Bool) : ∀ (l : q_L) (f : Bool) (k : q_L → Prop), q_put i v two l f k → ∃ l', k l' ∧ ∀ q ∈ l', q = (i, v) ∨ (q ∈ l ∧ q_keep i two q)
  | [], false, k, h => ⟨_, h, fun q hq => Or.inl (List.mem_singleton.mp hq)⟩
  | [], true, k, h => ⟨_, h, fun q hq => nomatch hq⟩
  | (j, w) :: l, f, k, h => by
    have up : ∀ {q : Nat × Value}, (q = (i, v) ∨ (q ∈ l ∧ q_keep i two q)) → (q = (i, v) ∨ (q ∈ (j, w) :: l ∧ q_keep i two q)) := fun h => h.elim Or.inl (fun h => Or.inr ⟨List.mem_cons_of_mem _ h.1, h.2⟩)
    unfold q_put at h
    split at h
    · split at h
      · obtain ⟨l', h1, h2⟩ := q_put_ok i v two l true k h
        exact ⟨l', h1, fun q hq => up (h2 q hq)⟩
      · obtain ⟨l', h1, h2⟩ := q_put_ok i v two l true _ h
        refine ⟨_, h1, fun q hq => ?_⟩
        rcases List.mem_cons.mp hq with e | hq
        · exact Or.inl e
        · exact up (h2 q hq)
    · next hb =>
      split at h
      · obtain ⟨l', h1, h2⟩ := q_put_ok i v two l f k h
        exact ⟨l', h1, fun q hq => up (h2 q hq)⟩
      · next hc =>
        obtain ⟨l', h1, h2⟩ := q_put_ok i v two l f _ h
        refine ⟨_, h1, fun q hq => ?_⟩
        rcases List.mem_cons.mp hq with e | hq
        · subst e
          refine Or.inr ⟨List.mem_cons_self, fun z => ?_, fun z => ?_, fun z1 z2 => ?_⟩
          · have : Nat.beq j i = true := Nat.beq_eq.mpr z
            rw [this] at hb; cases hb
          · have h1 : Nat.beq (j + 1) i = true := Nat.beq_eq.mpr z.1
            have h2 : Nat.beq w.category 2 = true := Nat.beq_eq.mpr z.2
            rw [h1, h2] at hc; simp at hc
          · have h1 : Nat.beq j (i + 1) = true := Nat.beq_eq.mpr z2
            rw [h1, z1] at hc; simp at hc
        · exact up (h2 q hq)
/-- the locals that live on, in a given order -/
def q_pk (lv : q_L) : List Nat → (q_L → Prop) → Prop
  | [], k => k []
  | i :: is, k => match q_lk i lv with
    | some v => q_pk lv is (fun l => k ((i, v) :: l))
    | none => False
theorem q_pk_ok (lv : q_L) : ∀ (is : List Nat) (k : q_L → Prop), q_pk lv is k → ∃ l', k l' ∧ ∀ q ∈ l', q ∈ lv
  | [], k, h => ⟨[], h, fun _ h => nomatch h⟩
  | i :: is, k, h => by
    unfold q_pk at h
    split at h
    · next v hv =>
      obtain ⟨l', h1, h2⟩ := q_pk_ok lv is _ h
      refine ⟨_, h1, fun q hq => ?_⟩
      rcases List.mem_cons.mp hq with e | hq
      · rw [e]; exact q_lk_mem hv
      · exact h2 q hq
    · exact h.elim
/-- the types of the fields -/
def q_fty : Nat → Nat → FieldType
  | 0 => tyX0 | 1 => tyX1 | 2 => tyX2 | 3 => tyX3 | 4 => tyX4 | 5 => tyX5 | 6 => tyX6 | 7 => tyX7 | 8 => tyX8 | 9 => tyX9 | 10 => tyX10 | 11 => tyX11 | 12 => tyX12 | 13 => tyX13 | _ => tyX14
def q_cin : Nat → Nat
  | 0 => 8 | 1 => 8 | 2 => 9 | 3 => 8 | 4 => 4 | 5 => 7 | 6 => 7 | 7 => 13 | 8 => 8 | 9 => 9 | 10 => 7 | 11 => 15 | 12 => 29 | 13 => 8 | _ => 53
/-- a code row: its instruction is decoded there, its number and its target are as told -/
def q_aux (pc : Nat) (i : Instr) (c : Int32) (t : Nat) : Bool := match i with
  | .iconst n => decide (Int32.ofInt n = c)
  | .bipush n => decide ((Int8.ofInt n).toInt32 = c)
  | .sipush n => decide ((Int16.ofInt n).toInt32 = c)
  | .iinc _ n => decide (Int32.ofInt n = c)
  | .goto off => decide ((pc : Int) + off = (t : Int))
  | .if_icmp _ off => decide ((pc : Int) + off = (t : Int))
  | .ifCond _ off => decide ((pc : Int) + off = (t : Int))
  | .ifnull off => decide ((pc : Int) + off = (t : Int))
  | .ifnonnull off => decide ((pc : Int) + off = (t : Int))
  | _ => true
/-- an instruction's length, 0 where it is open -/
def q_ilen (i : Instr) : Nat := match i with
  | .bipush _ => 2 | .sipush _ => 3 | .ldc _ => 2 | .ldc_w _ => 3 | .ldc2_w _ => 3 | .iload _ => 2 | .lload _ => 2 | .aload _ => 2 | .istore _ => 2 | .lstore _ => 2 | .astore _ => 2 | .iinc _ _ => 3
  | .goto _ => 3 | .ifCond _ _ => 3 | .if_icmp _ _ => 3 | .ifnull _ => 3 | .ifnonnull _ => 3 | .tableswitch _ _ _ _ => 0 | .getfield _ => 3 | .putfield _ => 3 | .getstatic _ => 3 | .new _ => 3 | .newarray _ => 2
  | .invokevirtual _ => 3 | .invokestatic _ => 3 | .invokespecial _ => 3
  | _ => 1
def q_okI (cc : ByteArray) (e : q_I) : Bool := decide (decode cc e.1 = .ok (e.2.1, e.2.2.1)) && (q_aux e.1 e.2.1 e.2.2.2.1 e.2.2.2.2 && (Nat.beq (q_ilen e.2.1) 0 || Nat.beq (q_ilen e.2.1) e.2.2.1))
