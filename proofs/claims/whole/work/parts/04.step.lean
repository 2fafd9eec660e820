/-! ===== one step, a call, a run ===== -/
/-- code, cuts (with what lives there), locals, fields, callees, long constants, int constants, text constants, constant rows, statics, depth, cells, slots, return type, handlers, made classes, Object's init, 1 and the class of a constructor (else 0) -/
abbrev q_E : Type := List q_I × List (Nat × List Nat) × Nat × List (Nat × Nat × Nat) × List (Nat × q_S) × List (Nat × Int64) × List (Nat × Int32) × List (Nat × Nat) × List (Nat × Nat × (Nat → Int32)) × List (Nat × Nat) × Nat × Nat × Nat × Option FieldType × List (Nat × Nat × Nat × Nat) × List (Nat × Nat) × Nat × Nat
def q_code (E : q_E) : List q_I := E.1
def q_cuts (E : q_E) : List (Nat × List Nat) := E.2.1
def q_nL (E : q_E) : Nat := E.2.2.1
def q_fl (E : q_E) : List (Nat × Nat × Nat) := E.2.2.2.1
def q_sg (E : q_E) : List (Nat × q_S) := E.2.2.2.2.1
def q_lc (E : q_E) : List (Nat × Int64) := E.2.2.2.2.2.1
def q_kc (E : q_E) : List (Nat × Int32) := E.2.2.2.2.2.2.1
def q_sc (E : q_E) : List (Nat × Nat) := E.2.2.2.2.2.2.2.1
def q_ct (E : q_E) : List (Nat × Nat × (Nat → Int32)) := E.2.2.2.2.2.2.2.2.1
def q_gs (E : q_E) : List (Nat × Nat) := E.2.2.2.2.2.2.2.2.2.1
def q_dp (E : q_E) : Nat := E.2.2.2.2.2.2.2.2.2.2.1
def q_RC (E : q_E) : Nat := E.2.2.2.2.2.2.2.2.2.2.2.1
def q_RS (E : q_E) : Nat := E.2.2.2.2.2.2.2.2.2.2.2.2.1
def q_rt (E : q_E) : Option FieldType := E.2.2.2.2.2.2.2.2.2.2.2.2.2.1
def q_hs (E : q_E) : List (Nat × Nat × Nat × Nat) := E.2.2.2.2.2.2.2.2.2.2.2.2.2.2.1
def q_nw (E : q_E) : List (Nat × Nat) := E.2.2.2.2.2.2.2.2.2.2.2.2.2.2.2.1
def q_oi (E : q_E) : Nat := E.2.2.2.2.2.2.2.2.2.2.2.2.2.2.2.2.1
def q_in (E : q_E) : Nat := E.2.2.2.2.2.2.2.2.2.2.2.2.2.2.2.2.2
def q_ns : List Nat := [0, 1, 2, 3, 4, 5, 6, 7, 8, 9, 10, 11, 12, 13, 14, 15, 16, 17, 18, 19, 20, 21, 22, 23, 24, 25, 26, 27, 28, 29, 30, 31, 32, 33, 34, 35, 36, 37, 38, 39, 40, 41, 42, 43, 44, 45, 46, 47, 48, 49, 50, 51, 52, 53, 54, 55, 56, 57, 58, 59, 60, 61, 62, 63, 64, 65, 66, 67, 68, 69, 70, 71, 72, 73, 74, 75, 76, 77, 78, 79, 80, 81, 82, 83, 84, 85, 86, 87, 88, 89, 90, 91, 92, 93, 94, 95, 96, 97, 98, 99, 100, 101, 102, 103, 104, 105, 106, 107, 108, 109, 110, 111, 112, 113, 114, 115, 116, 117, 118, 119, 120, 121, 122, 123, 124, 125, 126, 127, 128, 129, 130, 131, 132, 133, 134, 135, 136, 137, 138, 139, 140, 141, 142, 143, 144, 145, 146, 147, 148, 149, 150, 151, 152, 153, 154, 155, 156, 157, 158, 159, 160, 161, 162, 163, 164, 165, 166, 167, 168, 169, 170, 171, 172, 173, 174, 175, 176, 177, 178, 179, 180, 181, 182, 183, 184, 185, 186, 187, 188, 189, 190, 191, 192, 193, 194, 195, 196, 197, 198, 199, 200, 201, 202, 203, 204, 205, 206, 207, 208, 209, 210, 211, 212, 213, 214, 215, 216, 217, 218, 219, 220, 221, 222, 223, 224, 225, 226, 227, 228, 229, 230, 231, 232, 233, 234, 235, 236, 237, 238, 239, 240, 241, 242, 243, 244, 245, 246, 247, 248, 249]
def q_pop : Nat → List Value → List Value → (List Value → List Value → Prop) → Prop
  | 0, st, acc, k => k acc st
  | n + 1, st, acc, k => match st with
    | v :: st => q_pop n st (v :: acc) k
    | [] => False
def q_ix (p : Nat) : List Nat → List Nat → Option Nat
  | [], _ => none
  | a :: l, ns => match ns with
    | n :: ns => match Nat.beq a p with
      | true => some n
      | false => q_ix p l ns
    | [] => none
def q_sn {α : Type} (p : α) : List α → (List α → Prop) → Prop
  | [], k => k [p]
  | a :: l, k => q_sn p l (fun l' => k (a :: l'))
def q_ft (args : List Value) (aw : List q_C) : List (Nat ⊕ (Nat × Nat)) → List Nat → (List Nat → Prop) → Prop
  | [], σ, k => k σ
  | x :: fd, σ, k => match x with
    | .inl a => match q_at args a with
      | some (.ref p) => q_sn p σ (fun σ' => q_ft args aw fd σ' k)
      | _ => False
    | .inr (i, f) => match q_at σ i with
      | some p => match q_at aw p with
        | some (.inr (_, fs)) => match q_at fs f with
          | some (.ref p') => q_sn p' σ (fun σ' => q_ft args aw fd σ' k)
          | _ => False
        | _ => False
      | none => False
def q_el (a : Nat) : List Nat → Bool
  | [] => false
  | b :: l => match Nat.beq b a with
    | true => true
    | false => q_el a l
def q_nd : List Nat → Bool
  | [] => true
  | a :: l => match q_el a l with
    | true => false
    | false => q_nd l
def q_lval (σ : List Nat) (i j : Nat) (v : Value) (k : Value → Prop) : Prop := match v with
  | .ref p => match q_ix p σ q_ns with
    | some n => k (.ref n)
    | none => k (.retAddr (100 + (100 * i + j)))
  | .retAddr e => match Nat.ble 100 e with
    | true => k (.retAddr (100 + (100 * i + j)))
    | false => k (.retAddr e)
  | .int x => k (.int x)
  | .long x => k (.long x)
  | .null => k .null
  | .float x => k (.float x)
  | .double x => k (.double x)
def q_lf (σ : List Nat) (i : Nat) : List Value → Nat → (List Value → Prop) → Prop
  | [], _, k => k []
  | v :: l, j, k => match Nat.ble 100 j with
    | true => False
    | false => q_lval σ i j v (fun v' => q_lf σ i l (j + 1) (fun l' => k (v' :: l')))
def q_lcl (σ : List Nat) (i : Nat) (c : q_C) (k : q_C → Prop) : Prop := match c with
  | .inl a => k (.inl a)
  | .inr (ci, fs) => q_lf σ i fs 0 (fun fs' => k (.inr (ci, fs')))
def q_lw (aw : List q_C) (σ0 : List Nat) : List Nat → Nat → (List q_C → Prop) → Prop
  | [], _, k => k []
  | p :: σ, i, k => match q_at aw p with
    | some c => q_lcl σ0 i c (fun c' => q_lw aw σ0 σ (i + 1) (fun w => k (c' :: w)))
    | none => False
def q_la (σ : List Nat) : List Value → (List Value → Prop) → Prop
  | [], k => k []
  | v :: l, k => match v with
    | .ref p => match q_ix p σ q_ns with
      | some n => q_la σ l (fun l' => k (.ref n :: l'))
      | none => False
    | .retAddr e => e < 100 ∧ q_la σ l (fun l' => k (.retAddr e :: l'))
    | .int x => q_la σ l (fun l' => k (.int x :: l'))
    | .long x => q_la σ l (fun l' => k (.long x :: l'))
    | .null => q_la σ l (fun l' => k (.null :: l'))
    | _ => False
/-- what stood at place j of the footprint's cell i -/
def q_og (σ : List Nat) (aw : List q_C) (e : Nat) : Option Value := match q_at σ ((e - 100) / 100) with
  | some p => match q_at aw p with
    | some (.inr (_, fs)) => q_at fs ((e - 100) % 100)
    | _ => none
  | none => none
def q_gval (τ σ : List Nat) (aw : List q_C) (v : Value) (k : Value → Prop) : Prop := match v with
  | .ref n => match q_at τ n with
    | some p => k (.ref p)
    | none => False
  | .retAddr e => match Nat.ble 100 e with
    | false => k (.retAddr e)
    | true => match q_og σ aw e with
      | some (.ref p) => k (.ref p)
      | some (.retAddr x) => k (.retAddr x)
      | _ => False
  | .int x => k (.int x)
  | .long x => k (.long x)
  | .null => k .null
  | .float x => k (.float x)
  | .double x => k (.double x)
def q_gf (τ σ : List Nat) (aw : List q_C) : List Value → (List Value → Prop) → Prop
  | [], k => k []
  | v :: l, k => q_gval τ σ aw v (fun v' => q_gf τ σ aw l (fun l' => k (v' :: l')))
def q_gc (τ σ : List Nat) (aw : List q_C) (c : q_C) (k : q_C → Prop) : Prop := match c with
  | .inl a => k (.inl a)
  | .inr (ci, fs) => q_gf τ σ aw fs (fun fs' => k (.inr (ci, fs')))
def q_ap (c : q_C) : List q_C → Nat → (List q_C → Prop) → Prop
  | [], n, k => match n with
    | 0 => k [c]
    | _ + 1 => False
  | d :: l, n, k => match n with
    | 0 => k (c :: l)
    | n + 1 => q_ap c l n (fun l' => k (d :: l'))
def q_gw (τ σ : List Nat) (aw0 : List q_C) : List q_C → List Nat → List q_C → (List q_C → Prop) → Prop
  | [], _, aw, k => k aw
  | c :: w, ps, aw, k => match ps with
    | p :: ps => q_gc τ σ aw0 c (fun c' => q_ap c' aw p (fun aw' => q_gw τ σ aw0 w ps aw' k))
    | [] => False
def q_dl (ns : List Nat) : List q_C → List Nat
  | [] => ns
  | _ :: l => match q_dl ns l with
    | [] => []
    | _ :: r => r
def q_hdN : List Nat → Nat → (Nat → Prop) → Prop
  | [], _, _ => False
  | n :: ns, i, k => match i with
    | 0 => k n
    | i + 1 => q_hdN ns i k
/-- the places behind a call: the footprint, then new ones -/
def q_ext : List q_C → List Nat → List Nat → (List Nat → Prop) → Prop
  | [], σ, _, k => match σ with
    | [] => k []
    | _ :: _ => False
  | _ :: w, σ, ns, k => match σ with
    | p :: σ => q_ext w σ ns (fun l => k (p :: l))
    | [] => match ns with
      | n :: ns => q_ext w [] ns (fun l => k (n :: l))
      | [] => False
def q_v (n : Nat) (v : Value) : Bool := match v with
  | .ref p => Nat.ble (p + 1) n
  | _ => true
def q_vs (n : Nat) : List Value → Bool
  | [] => true
  | v :: l => match q_v n v with
    | true => q_vs n l
    | false => false
def q_vl (n : Nat) : q_L → Bool
  | [] => true
  | (_, v) :: l => match q_v n v with
    | true => q_vl n l
    | false => false
def q_vw (n : Nat) : List q_C → Bool
  | [] => true
  | c :: l => match c with
    | .inl _ => q_vw n l
    | .inr (_, fs) => match q_vs n fs with
      | true => q_vw n l
      | false => false
def q_ln : List q_C → Nat
  | [] => 0
  | _ :: l => q_ln l + 1
def q_cats : List Value → Nat
  | [] => 0
  | v :: l => v.category + q_cats l
def q_hd (pc : Nat) : List (Nat × Nat × Nat × Nat) → Option (Nat × Nat)
  | [] => none
  | (a, b, h, c) :: l => match Nat.ble a pc && Nat.ble (pc + 1) b with
    | true => some (h, c)
    | false => q_hd pc l
/-- v is thrown at pc -/
def q_thr (E : q_E) (pc : Nat) (v : Value) (lv : q_L) (aw : List q_C) (ca sl : Nat) (k : q_N) (z : q_K) : Prop := match v with
  | .ref p => match q_at aw p with
    | some (.inr (ci, _)) => match Nat.beq ci 13 with
      | false => False
      | true => match q_hd pc (q_hs E) with
        | none => z (.inr (.ref p)) aw
        | some (h, cj) => match Nat.beq cj 13 with
          | true => k h lv [.ref p] aw ca sl
          | false => False
    | _ => False
  | _ => False
/-- is the receiver what it has to be -/
def q_rc (rc : Nat) (args : List Value) (aw : List q_C) : Bool := match Nat.ble rc 96 with
  | false => true
  | true => match args with
    | .ref p :: _ => match q_at aw p with
      | some (.inr (ci, _)) => Nat.beq ci rc
      | _ => false
    | _ => false
def q_r8 (rc : Nat) (args : List Value) : Bool := match Nat.beq rc 98 with
  | false => match Nat.beq rc 97 with
    | false => true
    | true => match args with
      | .ref _ :: _ => true
      | _ => false
  | true => match args with
    | .retAddr e :: _ => Nat.ble (e + 1) 44
    | _ => false
def q_g8 (rc : Nat) (args : List Value) (k : Prop) : Prop := match Nat.beq rc 98 with
  | false => match q_r8 rc args with
    | true => k
    | false => False
  | true => match args with
    | .retAddr e :: _ => e < 44 ∧ k
    | _ => False
def q_call (E : q_E) (kd : Nat → Bool) (cs : q_S) (pc : Nat) (lv : q_L) (st : List Value) (aw : List q_C) (ca sl : Nat) (k : q_N) (z : q_K) : Prop :=
  match cs with
  | (n, rc, d, mL, mc, ms, fd, sp) => match Nat.ble (d + 1) (q_dp E) && (Nat.ble mL 45 && kd rc) with
    | false => False
    | true => q_pop n st [] (fun args rest => match Nat.ble (q_cats rest) 8 && q_rc rc args aw with
      | false => False
      | true => q_g8 rc args (match mc + ms with
        | 0 => q_ft args aw fd [] (fun σ => match q_nd σ with
          | false => False
          | true => q_lw aw σ σ 0 (fun w => q_la σ args (fun as => sp as w (fun o w' => q_ext w' σ [] (fun σ' => q_gw σ' σ aw w' σ' aw (fun aw' => match o with
            | .inl none => k (pc + 3) lv rest aw' ca sl
            | .inl (some v) => q_gval σ' σ aw v (fun v' => k (pc + 3) lv (v' :: rest) aw' ca sl)
            | .inr v => q_gval σ' σ aw v (fun v' => q_thr E pc v' lv aw' ca sl k z)))))))
        | _ + 1 => (ca + mc ≤ q_RC E ∧ sl + ms ≤ q_RS E) ∧ match q_vl (q_ln aw) lv && (q_vs (q_ln aw) rest && q_vw (q_ln aw) aw) with
          | false => False
          | true => q_ft args aw fd [] (fun σ => match q_nd σ with
            | false => False
            | true => q_lw aw σ σ 0 (fun w => q_la σ args (fun as => sp as w (fun o w' => q_ext w' σ (q_dl q_ns aw) (fun σ' => q_gw σ' σ aw w' σ' aw (fun aw' => match o with
              | .inl none => k (pc + 3) lv rest aw' (ca + mc) (sl + ms)
              | .inl (some v) => q_gval σ' σ aw v (fun v' => k (pc + 3) lv (v' :: rest) aw' (ca + mc) (sl + ms))
              | .inr v => q_gval σ' σ aw v (fun v' => q_thr E pc v' lv aw' (ca + mc) (sl + ms) k z)))))))))
/-- the cases of a table -/
def q_tsw (pc : Nat) (x : Int32) (k : Nat → Prop) : List Int → Int → Prop
  | [], _ => True
  | o :: l, j => (x.toInt = j → k ((pc : Int) + o).toNat) ∧ q_tsw pc x k l (j + 1)
def q_fin (ci k : Nat) : Bool := match q_at vwCl ci with
  | some (_, T, _) => (T k).2.2.2
  | none => true
/-- may v lie in a field of this type -/
def q_fit (ty : FieldType) (v : Value) (k : Prop) : Prop := match ty with
  | .int => match v with
    | .int _ => k
    | _ => False
  | .long => match v with
    | .long _ => k
    | _ => False
  | .boolean => match v with
    | .int x => narrow .boolean (.int x) = .int x ∧ k
    | _ => False
  | .object _ => match v with
    | .ref _ => k
    | .null => k
    | _ => False
  | .array _ => match v with
    | .ref _ => k
    | .null => k
    | _ => False
  | _ => False
def q_dv (ty : FieldType) : Value := match ty with
  | .int => .int 0
  | .long => .long 0
  | .boolean => .int 0
  | _ => .null
def q_dvs (f : Nat → FieldType) : List Nat → Nat → (List Value → Prop) → Prop
  | _, 0, k => k []
  | ns, n + 1, k => match ns with
    | i :: ns => match f i with
      | .int => q_dvs f ns n (fun l => k (.int 0 :: l))
      | .long => q_dvs f ns n (fun l => k (.long 0 :: l))
      | .boolean => q_dvs f ns n (fun l => k (.int 0 :: l))
      | .object _ => q_dvs f ns n (fun l => k (.null :: l))
      | .array _ => q_dvs f ns n (fun l => k (.null :: l))
      | _ => False
    | [] => False
def mnI (x y : Int32) : Int32 := if y < x then y else x
def mxI (x y : Int32) : Int32 := if x < y then y else x
def q_step (E : q_E) (pc : Nat) (i : Instr) (cn : Int32) (t : Nat) (lv : q_L) (st : List Value) (aw : List q_C) (ca sl : Nat) (k : q_N) (z : q_K) : Prop :=
  match i with
  | .iconst _ => k (pc + 1) lv (.int cn :: st) aw ca sl
  | .bipush _ => k (pc + 2) lv (.int cn :: st) aw ca sl
  | .sipush _ => k (pc + 3) lv (.int cn :: st) aw ca sl
  | .lconst n => match n with
    | 0 => k (pc + 1) lv (.long 0 :: st) aw ca sl
    | 1 => k (pc + 1) lv (.long 1 :: st) aw ca sl
  | .aconst_null => k (pc + 1) lv (.null :: st) aw ca sl
  | .ldc i => match q_lk i (q_kc E) with
    | some v => k (pc + 2) lv (.int v :: st) aw ca sl
    | none => match q_lk i (q_sc E) with
      | some e => k (pc + 2) lv (.retAddr e :: st) aw ca sl
      | none => False
  | .ldc_w i => match q_lk i (q_kc E) with
    | some v => k (pc + 3) lv (.int v :: st) aw ca sl
    | none => match q_lk i (q_sc E) with
      | some e => k (pc + 3) lv (.retAddr e :: st) aw ca sl
      | none => False
  | .ldc2_w i => match q_lk i (q_lc E) with
    | some v => k (pc + 3) lv (.long v :: st) aw ca sl
    | none => False
  | .iload i => match q_lk i lv with
    | some (.int x) => k (pc + 2) lv (.int x :: st) aw ca sl
    | _ => False
  | .iload_n i => match q_lk i.val lv with
    | some (.int x) => k (pc + 1) lv (.int x :: st) aw ca sl
    | _ => False
  | .lload i => match q_lk i lv with
    | some (.long x) => k (pc + 2) lv (.long x :: st) aw ca sl
    | _ => False
  | .lload_n i => match q_lk i.val lv with
    | some (.long x) => k (pc + 1) lv (.long x :: st) aw ca sl
    | _ => False
  | .aload i => match q_lk i lv with
    | some (.ref x) => k (pc + 2) lv (.ref x :: st) aw ca sl
    | some (.retAddr x) => k (pc + 2) lv (.retAddr x :: st) aw ca sl
    | _ => False
  | .aload_n i => match q_lk i.val lv with
    | some (.ref x) => k (pc + 1) lv (.ref x :: st) aw ca sl
    | some (.retAddr x) => k (pc + 1) lv (.retAddr x :: st) aw ca sl
    | some .null => k (pc + 1) lv (.null :: st) aw ca sl
    | _ => False
  | .istore i => match st with
    | .int x :: st => match Nat.ble (i + 1) (q_nL E) with
      | true => q_put i (.int x) false lv false (fun lv' => k (pc + 2) lv' st aw ca sl)
      | false => False
    | _ => False
  | .istore_n i => match st with
    | .int x :: st => match Nat.ble (i.val + 1) (q_nL E) with
      | true => q_put i.val (.int x) false lv false (fun lv' => k (pc + 1) lv' st aw ca sl)
      | false => False
    | _ => False
  | .lstore_n i => match st with
    | .long x :: st => match Nat.ble (i.val + 2) (q_nL E) with
      | true => q_put i.val (.long x) true lv false (fun lv' => k (pc + 1) lv' st aw ca sl)
      | false => False
    | _ => False
  | .lstore i => match st with
    | .long x :: st => match Nat.ble (i + 2) (q_nL E) with
      | true => q_put i (.long x) true lv false (fun lv' => k (pc + 2) lv' st aw ca sl)
      | false => False
    | _ => False
  | .astore i => match st with
    | .ref x :: st => match Nat.ble (i + 1) (q_nL E) with
      | true => q_put i (.ref x) false lv false (fun lv' => k (pc + 2) lv' st aw ca sl)
      | false => False
    | _ => False
  | .astore_n i => match st with
    | .ref x :: st => match Nat.ble (i.val + 1) (q_nL E) with
      | true => q_put i.val (.ref x) false lv false (fun lv' => k (pc + 1) lv' st aw ca sl)
      | false => False
    | _ => False
  | .iinc i _ => match q_lk i lv with
    | some (.int x) => match Nat.ble (i + 1) (q_nL E) with
      | true => q_put i (.int (x + cn)) false lv false (fun lv' => k (pc + 3) lv' st aw ca sl)
      | false => False
    | _ => False
  | .pop => match st with
    | v :: st => match Nat.beq v.category 1 with
      | true => k (pc + 1) lv st aw ca sl
      | false => False
    | _ => False
  | .dup => match st with
    | v :: st => match Nat.beq v.category 1 with
      | true => k (pc + 1) lv (v :: v :: st) aw ca sl
      | false => False
    | _ => False
  | .dup2 => match st with
    | v :: st => match Nat.beq v.category 1 with
      | true => match st with
        | w :: st => match Nat.beq w.category 1 with
          | true => k (pc + 1) lv (v :: w :: v :: w :: st) aw ca sl
          | false => False
        | _ => False
      | false => k (pc + 1) lv (v :: v :: st) aw ca sl
    | _ => False
  | .iadd => match st with
    | .int y :: .int x :: st => k (pc + 1) lv (.int (x + y) :: st) aw ca sl
    | _ => False
  | .isub => match st with
    | .int y :: .int x :: st => k (pc + 1) lv (.int (x - y) :: st) aw ca sl
    | _ => False
  | .imul => match st with
    | .int y :: .int x :: st => k (pc + 1) lv (.int (x * y) :: st) aw ca sl
    | _ => False
  | .irem => match st with
    | .int y :: .int x :: st => ¬ y = 0 ∧ k (pc + 1) lv (.int (x - x / y * y) :: st) aw ca sl
    | _ => False
  | .iand => match st with
    | .int y :: .int x :: st => k (pc + 1) lv (.int (x &&& y) :: st) aw ca sl
    | _ => False
  | .ior => match st with
    | .int y :: .int x :: st => k (pc + 1) lv (.int (x ||| y) :: st) aw ca sl
    | _ => False
  | .ishl => match st with
    | .int y :: .int x :: st => k (pc + 1) lv (.int (x <<< (y &&& 31)) :: st) aw ca sl
    | _ => False
  | .ishr => match st with
    | .int y :: .int x :: st => k (pc + 1) lv (.int (x >>> (y &&& 31)) :: st) aw ca sl
    | _ => False
  | .iushr => match st with
    | .int y :: .int x :: st => k (pc + 1) lv (.int (x.toUInt32 >>> (y.toUInt32 &&& Int32.toUInt32 31)).toInt32 :: st) aw ca sl
    | _ => False
  | .ladd => match st with
    | .long y :: .long x :: st => k (pc + 1) lv (.long (x + y) :: st) aw ca sl
    | _ => False
  | .lmul => match st with
    | .long y :: .long x :: st => k (pc + 1) lv (.long (x * y) :: st) aw ca sl
    | _ => False
  | .lcmp => match st with
    | .long y :: .long x :: st => k (pc + 1) lv (.int (lg_cmp x y) :: st) aw ca sl
    | _ => False
  | .i2l => match st with
    | .int x :: st => k (pc + 1) lv (.long x.toInt64 :: st) aw ca sl
    | _ => False
  | .i2b => match st with
    | .int x :: st => k (pc + 1) lv (.int x.toInt8.toInt32 :: st) aw ca sl
    | _ => False
  | .i2c => match st with
    | .int x :: st => k (pc + 1) lv (.int (x.toUInt32 % 65536).toInt32 :: st) aw ca sl
    | _ => False
  | .goto _ => k t lv st aw ca sl
  | .ifCond c _ => match st with
    | .int x :: st => match c with
      | .eq => (x = 0 → k t lv st aw ca sl) ∧ (¬ x = 0 → k (pc + 3) lv st aw ca sl)
      | .ne => (¬ x = 0 → k t lv st aw ca sl) ∧ (x = 0 → k (pc + 3) lv st aw ca sl)
      | .lt => (x < 0 → k t lv st aw ca sl) ∧ (¬ x < 0 → k (pc + 3) lv st aw ca sl)
      | .ge => (0 ≤ x → k t lv st aw ca sl) ∧ (¬ 0 ≤ x → k (pc + 3) lv st aw ca sl)
      | .gt => (0 < x → k t lv st aw ca sl) ∧ (¬ 0 < x → k (pc + 3) lv st aw ca sl)
      | .le => (x ≤ 0 → k t lv st aw ca sl) ∧ (¬ x ≤ 0 → k (pc + 3) lv st aw ca sl)
    | _ => False
  | .if_icmp c _ => match st with
    | .int y :: .int x :: st => match c with
      | .eq => (x = y → k t lv st aw ca sl) ∧ (¬ x = y → k (pc + 3) lv st aw ca sl)
      | .ne => (¬ x = y → k t lv st aw ca sl) ∧ (x = y → k (pc + 3) lv st aw ca sl)
      | .lt => (x < y → k t lv st aw ca sl) ∧ (¬ x < y → k (pc + 3) lv st aw ca sl)
      | .ge => (y ≤ x → k t lv st aw ca sl) ∧ (¬ y ≤ x → k (pc + 3) lv st aw ca sl)
      | .gt => (y < x → k t lv st aw ca sl) ∧ (¬ y < x → k (pc + 3) lv st aw ca sl)
      | .le => (x ≤ y → k t lv st aw ca sl) ∧ (¬ x ≤ y → k (pc + 3) lv st aw ca sl)
    | _ => False
  | .ifnull _ => match st with
    | .null :: st => k t lv st aw ca sl
    | .ref _ :: st => k (pc + 3) lv st aw ca sl
    | .retAddr _ :: st => k (pc + 3) lv st aw ca sl
    | _ => False
  | .ifnonnull _ => match st with
    | .null :: st => k (pc + 3) lv st aw ca sl
    | .ref _ :: st => k t lv st aw ca sl
    | .retAddr _ :: st => k t lv st aw ca sl
    | _ => False
  | .tableswitch d lo hi offs => match st with
    | .int x :: st => (x.toInt < lo ∨ hi < x.toInt → k ((pc : Int) + d).toNat lv st aw ca sl) ∧ q_tsw pc x (fun t => k t lv st aw ca sl) offs.toList lo ∧ hi + 1 = lo + offs.toList.length ∧ (0 ≤ (pc : Int) + d ∧ ∀ o ∈ offs.toList, 0 ≤ (pc : Int) + o)
    | _ => False
  | .getfield i => match st with
    | .ref p :: st => match q_lk i (q_fl E) with
      | some (ci, j) => match q_at aw p with
        | some (.inr (cj, fs)) => match Nat.beq ci cj with
          | true => match q_at fs j with
            | some v => k (pc + 3) lv (v :: st) aw ca sl
            | none => False
          | false => False
        | _ => False
      | none => False
    | _ => False
  | .putfield i => match st with
    | v :: .ref p :: st => match q_lk i (q_fl E) with
      | some (ci, j) => match q_at aw p with
        | some (.inr (cj, fs)) => match Nat.beq ci cj with
          | true => match q_fin ci j with
            | false => q_fit (q_fty ci j) v (q_set v fs j (fun fs' => q_set (.inr (ci, fs')) aw p (fun aw' => k (pc + 3) lv st aw' ca sl)))
            | true => match Nat.beq (q_in E) (ci + 1) with
              | true => q_fit (q_fty ci j) v (q_set v fs j (fun fs' => q_set (.inr (ci, fs')) aw p (fun aw' => k (pc + 3) lv st aw' ca sl)))
              | false => False
          | false => False
        | _ => False
      | none => False
    | _ => False
  | .getstatic i => match q_lk i (q_gs E) with
    | some e => match Nat.beq e 44 with
      | true => k (pc + 3) lv (.retAddr e :: st) aw ca sl
      | false => False
    | none => False
  | .arraylength => match st with
    | .ref p :: st => match q_at aw p with
      | some (.inl (kd, n, _)) => (kd = 0 ∨ kd = 1 ∨ kd = 2 ∨ kd = 3) ∧ k (pc + 1) lv (.int (Int32.ofNat n) :: st) aw ca sl
      | _ => False
    | .retAddr e :: st => match q_lk e (q_ct E) with
      | some (n, _) => k (pc + 1) lv (.int (Int32.ofNat n) :: st) aw ca sl
      | none => False
    | _ => False
  | .iaload => match st with
    | .int x :: .ref p :: st => match q_at aw p with
      | some (.inl (kd, n, .inl f)) => match Nat.beq kd 1 with
        | true => vp_in x n ∧ k (pc + 1) lv (.int (f x.toNatClampNeg) :: st) aw ca sl
        | false => False
      | _ => False
    | .int x :: .retAddr e :: st => match q_lk e (q_ct E) with
      | some (n, f) => vp_in x n ∧ k (pc + 1) lv (.int (f x.toNatClampNeg) :: st) aw ca sl
      | none => False
    | _ => False
  | .baload => match st with
    | .int x :: .ref p :: st => match q_at aw p with
      | some (.inl (kd, n, .inl f)) => match Nat.beq kd 0 || Nat.beq kd 3 with
        | true => vp_in x n ∧ k (pc + 1) lv (.int (f x.toNatClampNeg) :: st) aw ca sl
        | false => False
      | _ => False
    | _ => False
  | .laload => match st with
    | .int x :: .ref p :: st => match q_at aw p with
      | some (.inl (kd, n, .inr f)) => match Nat.beq kd 2 with
        | true => vp_in x n ∧ k (pc + 1) lv (.long (f x.toNatClampNeg) :: st) aw ca sl
        | false => False
      | _ => False
    | _ => False
  | .iastore => match st with
    | .int y :: .int x :: .ref p :: st => match q_at aw p with
      | some (.inl (kd, n, .inl f)) => match Nat.beq kd 1 with
        | true => vp_in x n ∧ q_set (.inl (1, n, .inl (upd f x.toNatClampNeg y))) aw p (fun aw' => k (pc + 1) lv st aw' ca sl)
        | false => False
      | _ => False
    | _ => False
  | .bastore => match st with
    | .int y :: .int x :: .ref p :: st => match q_at aw p with
      | some (.inl (kd, n, .inl f)) => match Nat.beq kd 0 with
        | true => vp_in x n ∧ q_set (.inl (0, n, .inl (upd f x.toNatClampNeg (vp_nar .byte y)))) aw p (fun aw' => k (pc + 1) lv st aw' ca sl)
        | false => match Nat.beq kd 3 with
          | true => vp_in x n ∧ q_set (.inl (3, n, .inl (upd f x.toNatClampNeg (vp_nar .boolean y)))) aw p (fun aw' => k (pc + 1) lv st aw' ca sl)
          | false => False
      | _ => False
    | _ => False
  | .lastore => match st with
    | .long y :: .int x :: .ref p :: st => match q_at aw p with
      | some (.inl (kd, n, .inr f)) => match Nat.beq kd 2 with
        | true => vp_in x n ∧ q_set (.inl (2, n, .inr (vp_updL f x.toNatClampNeg y))) aw p (fun aw' => k (pc + 1) lv st aw' ca sl)
        | false => False
      | _ => False
    | _ => False
  | .new i => match q_lk i (q_nw E) with
    | some ci => (ca + 1 ≤ q_RC E ∧ sl + q_cin ci ≤ q_RS E) ∧ match q_vl (q_ln aw) lv && (q_vs (q_ln aw) st && q_vw (q_ln aw) aw) with
      | false => False
      | true => q_hdN q_ns (q_ln aw) (fun n => q_dvs (q_fty ci) q_ns (q_cin ci) (fun fs => q_sn (.inr (ci, fs)) aw (fun aw' => k (pc + 3) lv (.ref n :: st) aw' (ca + 1) (sl + q_cin ci))))
    | none => False
  | .newarray a => match st with
    | .int x :: st => (x = Int32.ofNat t ∧ t ≤ 10000 ∧ ca + 1 ≤ q_RC E ∧ sl + t ≤ q_RS E) ∧ match q_vl (q_ln aw) lv && (q_vs (q_ln aw) st && q_vw (q_ln aw) aw) with
      | false => False
      | true => q_hdN q_ns (q_ln aw) (fun n => match newarray.typeOf a with
        | .byte => q_sn (.inl (0, t, .inl (fun _ => 0))) aw (fun aw' => k (pc + 2) lv (.ref n :: st) aw' (ca + 1) (sl + t))
        | .int => q_sn (.inl (1, t, .inl (fun _ => 0))) aw (fun aw' => k (pc + 2) lv (.ref n :: st) aw' (ca + 1) (sl + t))
        | .long => q_sn (.inl (2, t, .inr (fun _ => 0))) aw (fun aw' => k (pc + 2) lv (.ref n :: st) aw' (ca + 1) (sl + t))
        | .boolean => q_sn (.inl (3, t, .inl (fun _ => 0))) aw (fun aw' => k (pc + 2) lv (.ref n :: st) aw' (ca + 1) (sl + t))
        | _ => False)
    | _ => False
  | .invokevirtual i => match q_lk i (q_sg E) with
    | some cs => q_call E (fun rc => Nat.ble rc 96 || Nat.beq rc 98) cs pc lv st aw ca sl k z
    | none => False
  | .invokestatic i => match q_lk i (q_gs E) with
    | some e => match st with
      | .int y :: .int x :: st => match Nat.ble (q_cats st) 8 && Nat.ble 1 (q_dp E) with
        | true => match Nat.beq e 1 with
          | true => k (pc + 3) lv (.int (mxI x y) :: st) aw ca sl
          | false => match Nat.beq e 2 with
            | true => k (pc + 3) lv (.int (mnI x y) :: st) aw ca sl
            | false => False
        | false => False
      | _ => False
    | none => match q_lk i (q_sg E) with
      | some cs => q_call E (fun rc => Nat.beq rc 99) cs pc lv st aw ca sl k z
      | none => False
  | .invokespecial i => match Nat.beq i (q_oi E) && Nat.ble 1 (q_oi E) with
    | true => match st with
      | .ref _ :: st => match Nat.ble (q_cats st) 8 && Nat.ble 1 (q_dp E) with
        | true => k (pc + 3) lv st aw ca sl
        | false => False
      | _ => False
    | false => match q_lk i (q_sg E) with
      | some cs => q_call E (fun rc => Nat.beq rc 97) cs pc lv st aw ca sl k z
      | none => False
  | .ireturn => match st with
    | [.int x] => match q_rt E with
      | some .int => z (.inl (some (.int x))) aw
      | some .boolean => narrow .boolean (.int x) = .int x ∧ z (.inl (some (.int x))) aw
      | some .char => narrow .char (.int x) = .int x ∧ z (.inl (some (.int x))) aw
      | some .byte => narrow .byte (.int x) = .int x ∧ z (.inl (some (.int x))) aw
      | _ => False
    | _ => False
  | .lreturn => match st with
    | [.long x] => match q_rt E with
      | some .long => z (.inl (some (.long x))) aw
      | _ => False
    | _ => False
  | .areturn => match st with
    | [.ref x] => match q_rt E with
      | some (.object _) => z (.inl (some (.ref x))) aw
      | _ => False
    | _ => False
  | .return_ => match st with
    | [] => match q_rt E with
      | none => z (.inl none) aw
      | _ => False
    | _ => False
  | .athrow => match st with
    | v :: _ => q_thr E pc v lv aw ca sl k z
    | _ => False
  | _ => False
def q_sk (pc : Nat) : List q_I → List q_I
  | [] => []
  | (q, r) :: l => match Nat.beq q pc with
    | true => (q, r) :: l
    | false => q_sk pc l
def q_nx (E : q_E) (pc : Nat) (l : List q_I) : List q_I := match l with
  | [] => q_sk pc (q_code E)
  | (q, r) :: l => match Nat.beq q pc with
    | true => (q, r) :: l
    | false => q_sk pc (q_code E)
noncomputable def q_run (E : q_E) (C : q_N) (z : q_K) (n : Nat) : List q_I → q_L → List Value → List q_C → Nat → Nat → Prop :=
  Nat.rec (motive := fun _ => List q_I → q_L → List Value → List q_C → Nat → Nat → Prop) (fun _ _ _ _ _ _ => False)
    (fun _ ih l lv st aw ca sl => match l with
      | [] => False
      | (pc, i, _, cn, t) :: l => q_step E pc i cn t lv st aw ca sl (fun pc' lv' st' aw' ca' sl' => match q_lk pc' (q_cuts E) with
        | some live => q_pk lv' live (fun lv'' => C pc' lv'' st' aw' ca' sl')
        | none => ih (q_nx E pc' l) lv' st' aw' ca' sl') z) n
noncomputable def q_go (E : q_E) (C : q_N) (z : q_K) (pc : Nat) (lv : q_L) (st : List Value) (aw : List q_C) (ca sl : Nat) : Prop := q_run E C z 400 (q_sk pc (q_code E)) lv st aw ca sl
