/-! ===== texts: what the machine can't see, by rules of its own ===== -/
def q_JR (cc : ByteArray) (own : String) (C : q_N) : Prop :=
  (∀ pc idx lv st aw ca sl t x, decode cc pc = .ok (.getfield idx, 3) → Cond.fieldLink own idx "java/lang/String" "coder" "B" ∈ q_G → q_str[t]? = some x → C (pc + 3) lv (.int 0 :: st) aw ca sl → C pc lv (.retAddr t :: st) aw ca sl) ∧
  (∀ pc idx lv st aw ca sl t x, decode cc pc = .ok (.getfield idx, 3) → Cond.fieldLink own idx "java/lang/String" "value" "[B" ∈ q_G → q_str[t]? = some x → C (pc + 3) lv (.retAddr (45 + t) :: st) aw ca sl → C pc lv (.retAddr t :: st) aw ca sl) ∧
  (∀ pc lv st aw ca sl t x, decode cc pc = .ok (.arraylength, 1) → q_str[t]? = some x → C (pc + 1) lv (.int (Int32.ofNat x.2.2.2.length) :: st) aw ca sl → C pc lv (.retAddr (45 + t) :: st) aw ca sl) ∧
  (∀ pc lv st aw ca sl t x (i : Int32), decode cc pc = .ok (.baload, 1) → q_str[t]? = some x → vp_in i x.2.2.2.length → C (pc + 1) lv (.int (x.2.2.2.getD i.toNatClampNeg 0) :: st) aw ca sl → C pc lv (.int i :: .retAddr (45 + t) :: st) aw ca sl) ∧
  (∀ pc idx lv st aw ca sl, decode cc pc = .ok (.getstatic idx, 3) → Cond.fieldLink own idx "java/lang/String" "COMPACT_STRINGS" "Z" ∈ q_G → C (pc + 3) lv (.int 1 :: st) aw ca sl → C pc lv st aw ca sl) ∧
  (∀ pc idx lv st aw ca sl, decode cc pc = .ok (.getstatic idx, 3) → Cond.fieldLink own idx "jdk/internal/util/Preconditions" "SIOOBE_FORMATTER" "Ljava/util/function/BiFunction;" ∈ q_G → C (pc + 3) lv (.null :: st) aw ca sl → C (pc + 3) lv (.retAddr 89 :: st) aw ca sl → C pc lv st aw ca sl)
theorem q_ct_ofJ {l : Launch} {y : MethodName} {cc : ByteArray} {maxL : Nat} {ret : Option FieldType} {d mc ms : Nat} {sp : q_P} (E : q_E) (hy : plainName y.cls = true) (hE : q_Eok l y.cls cc E) (hnL : q_nL E = maxL) (hrt : q_rt E = ret) (hdp : q_dp E = d) (hRC : q_RC E = mc) (hRS : q_RS E = ms)
    (hct : ∀ x ∈ q_ct E, x = (44, 4, q_ROOM)) (hin : ∀ ci, q_in E = ci + 1 → y.name = "<init>" ∧ (vwCl[ci]?).map (fun q => q.1) = some y.cls) (hhs : q_hs E = [])
    (body : ∀ (a : List Value) (w : List q_C) (K : q_K), sp a w K → q_cats a ≤ maxL ∧ ∀ C : q_N, (∀ pc lv st aw ca sl, q_go E C K pc lv st aw ca sl → C pc lv st aw ca sl) → q_JR cc y.cls C → C 0 (lv_args 0 a) [] w 0 0) :
    q_CT l y (.code y cc maxL ret) d mc ms sp := by
  intro D cy ad xd xv a w K sz hsp
  obtain ⟨hcat, body⟩ := body a w K hsp
  refine qx_ofW (cc := cc) (maxL := maxL) (ret := ret) hy rfl ?_
  intro p e s m args below meth c s₁ B hml hno hv
  obtain ⟨rfl, hsz, hP, hK, hD0, hamb⟩ := hv
  have hts0 := atoms_spec (ws := Cond.code y cc maxL ret :: q_G) B.pre
  have hts : ∀ w ∈ q_G, w.before (a.map (q_cv ad xd)).toArray s = true := fun w hw => hts0 w (List.mem_cons_of_mem _ hw)
  have hown : s.vm.findClass y.cls = some m.cls := findClass_of_methodNamed B.named
  subst hsz
  have hD := hD0.self (sz := s.heap.size)
  have hA : ∀ q : Nat, s.heap.size ≤ q → va_A (q_cw cy ad xd 0 w) s.heap.size q := fun q h => Or.inr h
  have hS : va_S (va_A (q_cw cy ad xd 0 w) s.heap.size) s.heap s.heap [] := va_S.rf
  have hcx : q_Cx p l s m (a.map (q_cv ad xd)).toArray meth c (q_rm d mc ms) y.cls cc D cy xd xv (va_A (q_cw cy ad xd 0 w) s.heap.size) E :=
    ⟨B.exec, B.bytes, hml.trans hnL.symm, hown, hts, hK, hA, fun x hx => by rw [hct x hx]; exact hamb.2.2.1, hamb, fun ci hci => ⟨(name_of_methodNamed B.named B.method).1.trans (hin ci hci).1, (hin ci hci).2⟩, ⟨by rw [hdp]; exact Nat.le_refl _, by rw [hdp]; exact Nat.le_refl _, hRC.symm, hRS.symm⟩, hE⟩
  have hgo := q_go_ok (e := e) (below := below) (n0 := w.length) (ad0 := ad) hcx (z := K) (Q := qx_MQ below (q_Qc D cy ad xd w.length K (va_A (q_cw cy ad xd 0 w) s.heap.size)) (q_XC D cy ad xd w.length K (va_A (q_cw cy ad xd 0 w) s.heap.size)) (a.map (q_cv ad xd)).toArray s mc ms (va_A (q_cw cy ad xd 0 w) s.heap.size)) (q_Th_of hK B.notSynchronized hno hhs rfl rfl) (q_Rt_of B.exec B.bytes (B.returns.trans hrt.symm) B.notSynchronized rfl rfl)
  have h9 := body _ hgo ⟨
    fun pc idx lv st aw ca sl t x h1 h2 h3 h4 hca hsl ad' ls H locs hn0 had hlv hP hD hS => vk_getf B.exec B.bytes (hamb.1 t x h3).2.2.1 hS hown (hts _ h2) (fun _ h9 => h9) h1 (h4 hca hsl ad' ls H locs hn0 had hlv hP hD hS),
    fun pc idx lv st aw ca sl t x h1 h2 h3 h4 hca hsl ad' ls H locs hn0 had hlv hP hD hS => vk_getf B.exec B.bytes (hamb.1 t x h3).2.2.2.1 hS hown (hts _ h2) (fun _ h9 => h9) h1 (h4 hca hsl ad' ls H locs hn0 had hlv hP hD hS),
    fun pc lv st aw ca sl t x h1 h3 h4 hca hsl ad' ls H locs hn0 had hlv hP hD hS => va_tlen B.exec B.bytes (hamb.1 t x h3).2.2.2.2 hS rfl h1 (h4 hca hsl ad' ls H locs hn0 had hlv hP hD hS),
    fun pc lv st aw ca sl t x i h1 h3 hin h4 hca hsl ad' ls H locs hn0 had hlv hP hD hS => va_tb B.exec B.bytes (hamb.1 t x h3).2.2.2.2 hS hin rfl h1 (h4 hca hsl ad' ls H locs hn0 had hlv hP hD hS),
    fun pc idx lv st aw ca sl h1 h2 h4 hca hsl ad' ls H locs hn0 had hlv hP hD hS => va_gets (C := "java/lang/String") (n := "COMPACT_STRINGS") (d := "Z") (ref := "java/lang/String") B.exec B.bytes hamb.2.2.2.1 hS hown (hts _ h2) (fun _ h9 => h9) h1 (h4 hca hsl ad' ls H locs hn0 had hlv hP hD hS),
    fun pc idx lv st aw ca sl h1 h2 h4 h5 hca hsl ad' ls H locs hn0 had hlv hP hD hS => hamb.2.2.2.2.1.elim
      (fun h6 => va_gets (C := "jdk/internal/util/Preconditions") (n := "SIOOBE_FORMATTER") (d := "Ljava/util/function/BiFunction;") (ref := "jdk/internal/util/Preconditions") B.exec B.bytes h6 hS hown (hts _ h2) (fun _ h9 => h9) h1 (h4 hca hsl ad' ls H locs hn0 had hlv hP hD hS))
      (fun h6 => va_gets (C := "jdk/internal/util/Preconditions") (n := "SIOOBE_FORMATTER") (d := "Ljava/util/function/BiFunction;") (ref := "jdk/internal/util/Preconditions") B.exec B.bytes h6 hS hown (hts _ h2) (fun _ h9 => h9) h1 (h5 hca hsl ad' ls H locs hn0 had hlv hP hD hS))⟩ (Nat.zero_le _) (Nat.zero_le _) ad
  have hlen : (lg_sl (a.map (q_cv ad xd))).length ≤ maxL := by rw [q_sl_len, q_cats_map]; exact hcat
  have hl := lv_entry (a.map (q_cv ad xd)) (n := maxL) hlen
  rw [lg_entry_eq]
  refine h9 _ s.heap [] (Nat.le_refl _) (fun _ _ => rfl) ?_ hP hD hS
  rw [hnL, ← q_args]
  exact hl

def tJ0_coder_7d493 : List q_I := [(0, .getstatic 38, 3, 0, 0), (3, .ifCond .eq 10, 3, 0, 13), (6, .aload_n 0, 1, 0, 0), (7, .getfield 15, 3, 0, 0), (10, .goto 4, 3, 0, 14), (13, .iconst 1, 1, 1, 0), (14, .ireturn, 1, 0, 0)]
theorem tJ0_coder_7d493_ok : (tJ0_coder_7d493.all (q_okI cJ0_coder_7d493)) = true := by decide +kernel

abbrev fdJ0_coder_7d493 : List (Nat ⊕ (Nat × Nat)) := []
def spJ0_coder_7d493 : q_P := fun a w K => ∃ (t : Nat), w = [] ∧ a = [.retAddr t] ∧ t < 44 ∧ K (.inl (some (.int 0))) []
abbrev csJ0_coder_7d493 : q_S := (1, 98, 0, 1, 0, 0, fdJ0_coder_7d493, spJ0_coder_7d493)
def EJ0_coder_7d493 : q_E := (tJ0_coder_7d493, [(7, [0])], 1, [], [], [], [], [], [], [], 0, 0, 0, (some .byte), [], [], 0, 0)
theorem okJ0_coder_7d493 (l : Launch) : q_Eok l RJ0 cJ0_coder_7d493 EJ0_coder_7d493 := ⟨tJ0_coder_7d493_ok, q_nil, q_nil, q_nil, q_nil, q_nil, q_nil, q_nil, (fun h => absurd h (by decide))⟩
set_option maxRecDepth 100000 in
set_option maxHeartbeats 4000000 in
theorem ctJ0_coder_7d493 (l : Launch) : q_CT l yJ0_coder_7d493 (.code yJ0_coder_7d493 cJ0_coder_7d493 1 (some .byte)) 0 0 0 spJ0_coder_7d493 := by
  refine q_ct_ofJ EJ0_coder_7d493 (by decide +kernel) (okJ0_coder_7d493 l) rfl rfl rfl rfl rfl q_nil (fun ci h => by cases h) rfl ?_
  intro a w K h
  obtain ⟨t, rfl, rfl, ht, hK⟩ := h
  refine ⟨Nat.le_of_ble_eq_true rfl, fun C hC hR => ?_⟩
  obtain ⟨r1, r2, r3, r4, r5, r6⟩ := hR
  have hx : ∃ x, q_str[t]? = some x := ⟨_, List.getElem?_eq_getElem (by exact ht)⟩
  obtain ⟨x, hx⟩ := hx
  refine r5 0 38 _ _ _ _ _ (by decide +kernel) (q_G_i 219 (by decide +kernel) rfl) (hC _ _ _ _ _ _ ?_)
  refine And.intro (fun c => absurd c (by decide)) (fun _ => ?_)
  refine r1 7 15 _ _ _ _ _ t x (by decide +kernel) (q_G_i 1957 (by decide +kernel) rfl) hx (hC _ _ _ _ _ _ ?_)
  exact ⟨rfl, hK⟩
def tJ0_isLatin1_aae02 : List q_I := [(0, .getstatic 38, 3, 0, 0), (3, .ifCond .eq 14, 3, 0, 17), (6, .aload_n 0, 1, 0, 0), (7, .getfield 15, 3, 0, 0), (10, .ifCond .ne 7, 3, 0, 17), (13, .iconst 1, 1, 1, 0), (14, .goto 4, 3, 0, 18), (17, .iconst 0, 1, 0, 0), (18, .ireturn, 1, 0, 0)]
theorem tJ0_isLatin1_aae02_ok : (tJ0_isLatin1_aae02.all (q_okI cJ0_isLatin1_aae02)) = true := by decide +kernel

abbrev fdJ0_isLatin1_aae02 : List (Nat ⊕ (Nat × Nat)) := []
def spJ0_isLatin1_aae02 : q_P := fun a w K => ∃ (t : Nat), w = [] ∧ a = [.retAddr t] ∧ t < 44 ∧ K (.inl (some (.int 1))) []
abbrev csJ0_isLatin1_aae02 : q_S := (1, 98, 0, 1, 0, 0, fdJ0_isLatin1_aae02, spJ0_isLatin1_aae02)
def EJ0_isLatin1_aae02 : q_E := (tJ0_isLatin1_aae02, [(7, [0])], 1, [], [], [], [], [], [], [], 0, 0, 0, (some .boolean), [], [], 0, 0)
theorem okJ0_isLatin1_aae02 (l : Launch) : q_Eok l RJ0 cJ0_isLatin1_aae02 EJ0_isLatin1_aae02 := ⟨tJ0_isLatin1_aae02_ok, q_nil, q_nil, q_nil, q_nil, q_nil, q_nil, q_nil, (fun h => absurd h (by decide))⟩
set_option maxRecDepth 100000 in
set_option maxHeartbeats 4000000 in
theorem ctJ0_isLatin1_aae02 (l : Launch) : q_CT l yJ0_isLatin1_aae02 (.code yJ0_isLatin1_aae02 cJ0_isLatin1_aae02 1 (some .boolean)) 0 0 0 spJ0_isLatin1_aae02 := by
  refine q_ct_ofJ EJ0_isLatin1_aae02 (by decide +kernel) (okJ0_isLatin1_aae02 l) rfl rfl rfl rfl rfl q_nil (fun ci h => by cases h) rfl ?_
  intro a w K h
  obtain ⟨t, rfl, rfl, ht, hK⟩ := h
  refine ⟨Nat.le_of_ble_eq_true rfl, fun C hC hR => ?_⟩
  obtain ⟨r1, r2, r3, r4, r5, r6⟩ := hR
  have hx : ∃ x, q_str[t]? = some x := ⟨_, List.getElem?_eq_getElem (by exact ht)⟩
  obtain ⟨x, hx⟩ := hx
  refine r5 0 38 _ _ _ _ _ (by decide +kernel) (q_G_i 219 (by decide +kernel) rfl) (hC _ _ _ _ _ _ ?_)
  refine And.intro (fun c => absurd c (by decide)) (fun _ => ?_)
  refine r1 7 15 _ _ _ _ _ t x (by decide +kernel) (q_G_i 1957 (by decide +kernel) rfl) hx (hC _ _ _ _ _ _ ?_)
  exact And.intro (fun c => absurd rfl c) (fun _ => ⟨rfl, hK⟩)
theorem shr0 (x : Int32) : x >>> ((0 : Int32) &&& 31) = x := by
  rw [show ((0 : Int32) &&& 31) = 0 by decide, Int32.shiftRight_zero]
def tJ0_length_8abf5 : List q_I := [(0, .aload_n 0, 1, 0, 0), (1, .getfield 9, 3, 0, 0), (4, .arraylength, 1, 0, 0), (5, .aload_n 0, 1, 0, 0), (6, .invokevirtual 335, 3, 0, 0), (9, .ishr, 1, 0, 0), (10, .ireturn, 1, 0, 0)]
theorem tJ0_length_8abf5_ok : (tJ0_length_8abf5.all (q_okI cJ0_length_8abf5)) = true := by decide +kernel

abbrev fdJ0_length_8abf5 : List (Nat ⊕ (Nat × Nat)) := []
def spJ0_length_8abf5 : q_P := fun a w K => ∃ (t : Nat) (x : String × Nat × String × List Int32), w = [] ∧ a = [.retAddr t] ∧ q_str[t]? = some x ∧ K (.inl (some (.int (nI x.2.2.2.length)))) []
abbrev csJ0_length_8abf5 : q_S := (1, 98, 1, 1, 0, 0, fdJ0_length_8abf5, spJ0_length_8abf5)
theorem coJ0_335 (l : Launch) : q_CO l RJ0 335 csJ0_coder_7d493 := ⟨yJ0_coder_7d493, cJ0_coder_7d493, (some .byte), 0, ⟨by decide +kernel, by decide +kernel, by decide +kernel⟩, q_G_i 7 (by decide +kernel) rfl, Or.inr (Or.inr (Or.inl ⟨rfl, rfl, rfl, q_G_i 215 (by decide +kernel) rfl, q_G_i 216 (by decide +kernel) rfl, q_G_i 217 (by decide +kernel) rfl, q_G_i 218 (by decide +kernel) rfl, ctJ0_coder_7d493 l⟩))⟩
def EJ0_length_8abf5 : q_E := (tJ0_length_8abf5, [(1, [0]), (4, [0])], 1, [], [(335, csJ0_coder_7d493)], [], [], [], [], [], 1, 0, 0, (some .int), [], [], 0, 0)
theorem okJ0_length_8abf5 (l : Launch) : q_Eok l RJ0 cJ0_length_8abf5 EJ0_length_8abf5 := ⟨tJ0_length_8abf5_ok, q_nil, List.forall_mem_cons.mpr ⟨(coJ0_335 l), q_nil⟩, q_nil, q_nil, q_nil, q_nil, q_nil, (fun h => absurd h (by decide))⟩
set_option maxRecDepth 100000 in
set_option maxHeartbeats 4000000 in
theorem ctJ0_length_8abf5 (l : Launch) : q_CT l yJ0_length_8abf5 (.code yJ0_length_8abf5 cJ0_length_8abf5 1 (some .int)) 1 0 0 spJ0_length_8abf5 := by
  refine q_ct_ofJ EJ0_length_8abf5 (by decide +kernel) (okJ0_length_8abf5 l) rfl rfl rfl rfl rfl q_nil (fun ci h => by cases h) rfl ?_
  intro a w K h
  obtain ⟨t, x, rfl, rfl, hx, hK⟩ := h
  refine ⟨Nat.le_of_ble_eq_true rfl, fun C hC hR => hC _ _ _ _ _ _ ?_⟩
  obtain ⟨r1, r2, r3, r4, r5, r6⟩ := hR
  refine r2 1 9 _ _ _ _ _ t x (by decide +kernel) (q_G_i 1956 (by decide +kernel) rfl) hx ?_
  refine r3 4 _ _ _ _ _ t x (by decide +kernel) hx (hC _ _ _ _ _ _ ?_)
  have ht := q_str_lt hx
  refine ⟨ht, by omega, t, rfl, rfl, ht, ?_⟩
  show K (.inl (some (.int _))) _
  rw [shr0]
  exact hK
def tJ3_checkIndex_8e157 : List q_I := [(0, .iload_n 0, 1, 0, 0), (1, .ifCond .lt 8, 3, 0, 9), (4, .iload_n 0, 1, 0, 0), (5, .iload_n 1, 1, 0, 0), (6, .if_icmp .lt 10, 3, 0, 16), (9, .aload_n 2, 1, 0, 0), (10, .iload_n 0, 1, 0, 0), (11, .iload_n 1, 1, 0, 0), (12, .invokestatic 95, 3, 0, 0), (15, .athrow, 1, 0, 0), (16, .iload_n 0, 1, 0, 0), (17, .ireturn, 1, 0, 0)]
theorem tJ3_checkIndex_8e157_ok : (tJ3_checkIndex_8e157.all (q_okI cJ3_checkIndex_8e157)) = true := by decide +kernel

abbrev fdJ3_checkIndex_8e157 : List (Nat ⊕ (Nat × Nat)) := []
def spJ3_checkIndex_8e157 : q_P := fun a w K => ∃ (i n : Nat) (v : Value), w = [] ∧ a = [.int (nI i), .int (nI n), v] ∧ (v = .null ∨ v = .retAddr 89) ∧ i < n ∧ n < 2 ^ 31 ∧ K (.inl (some (.int (nI i)))) []
abbrev csJ3_checkIndex_8e157 : q_S := (3, 99, 0, 3, 0, 0, fdJ3_checkIndex_8e157, spJ3_checkIndex_8e157)
def EJ3_checkIndex_8e157 : q_E := (tJ3_checkIndex_8e157, [], 3, [], [], [], [], [], [], [], 0, 0, 0, (some .int), [], [], 0, 0)
theorem okJ3_checkIndex_8e157 (l : Launch) : q_Eok l RJ3 cJ3_checkIndex_8e157 EJ3_checkIndex_8e157 := ⟨tJ3_checkIndex_8e157_ok, q_nil, q_nil, q_nil, q_nil, q_nil, q_nil, q_nil, (fun h => absurd h (by decide))⟩
set_option maxRecDepth 100000 in
set_option maxHeartbeats 4000000 in
theorem ctJ3_checkIndex_8e157 (l : Launch) : q_CT l yJ3_checkIndex_8e157 (.code yJ3_checkIndex_8e157 cJ3_checkIndex_8e157 3 (some .int)) 0 0 0 spJ3_checkIndex_8e157 := by
  refine q_ct_of EJ3_checkIndex_8e157 (by decide +kernel) (okJ3_checkIndex_8e157 l) rfl rfl rfl rfl rfl q_nil (fun ci h => by cases h) rfl ?_
  intro a w K h
  obtain ⟨i, n, v, rfl, rfl, hv, hi, hn, hK⟩ := h
  refine ⟨by rcases hv with rfl | rfl <;> exact Nat.le_of_ble_eq_true rfl, fun C hC => hC _ _ _ _ _ _ ?_⟩
  refine And.intro (fun c => absurd c (nI_pos (by omega))) (fun _ => And.intro (fun c => hK) (fun c => absurd (nI_lt hi (by omega)) c))
def tJ0_checkIndex_df160 : List q_I := [(0, .iload_n 0, 1, 0, 0), (1, .iload_n 1, 1, 0, 0), (2, .getstatic 1053, 3, 0, 0), (5, .invokestatic 1059, 3, 0, 0), (8, .pop, 1, 0, 0), (9, .return_, 1, 0, 0)]
theorem tJ0_checkIndex_df160_ok : (tJ0_checkIndex_df160.all (q_okI cJ0_checkIndex_df160)) = true := by decide +kernel

abbrev fdJ0_checkIndex_df160 : List (Nat ⊕ (Nat × Nat)) := []
def spJ0_checkIndex_df160 : q_P := fun a w K => ∃ (i n : Nat), w = [] ∧ a = [.int (nI i), .int (nI n)] ∧ i < n ∧ n < 2 ^ 31 ∧ K (.inl none) []
abbrev csJ0_checkIndex_df160 : q_S := (2, 99, 1, 2, 0, 0, fdJ0_checkIndex_df160, spJ0_checkIndex_df160)
theorem coJ0_1059 (l : Launch) : q_CO l RJ0 1059 csJ3_checkIndex_8e157 := ⟨yJ3_checkIndex_8e157, cJ3_checkIndex_8e157, (some .int), 3, ⟨by decide +kernel, by decide +kernel, by decide +kernel⟩, q_G_i 9 (by decide +kernel) rfl, Or.inr (Or.inr (Or.inr ⟨rfl, rfl, q_G_i 238 (by decide +kernel) rfl, q_G_i 239 (by decide +kernel) rfl, Or.inl ⟨q_G_i 240 (by decide +kernel) rfl, ctJ3_checkIndex_8e157 l⟩⟩))⟩
def EJ0_checkIndex_df160 : q_E := (tJ0_checkIndex_df160, [(2, [0, 1])], 2, [], [(1059, csJ3_checkIndex_8e157)], [], [], [], [], [], 1, 0, 0, none, [], [], 0, 0)
theorem okJ0_checkIndex_df160 (l : Launch) : q_Eok l RJ0 cJ0_checkIndex_df160 EJ0_checkIndex_df160 := ⟨tJ0_checkIndex_df160_ok, q_nil, List.forall_mem_cons.mpr ⟨(coJ0_1059 l), q_nil⟩, q_nil, q_nil, q_nil, q_nil, q_nil, (fun h => absurd h (by decide))⟩
set_option maxRecDepth 100000 in
set_option maxHeartbeats 4000000 in
theorem ctJ0_checkIndex_df160 (l : Launch) : q_CT l yJ0_checkIndex_df160 (.code yJ0_checkIndex_df160 cJ0_checkIndex_df160 2 none) 1 0 0 spJ0_checkIndex_df160 := by
  refine q_ct_ofJ EJ0_checkIndex_df160 (by decide +kernel) (okJ0_checkIndex_df160 l) rfl rfl rfl rfl rfl q_nil (fun ci h => by cases h) rfl ?_
  intro a w K h
  obtain ⟨i, n, rfl, rfl, hi, hn, hK⟩ := h
  refine ⟨Nat.le_of_ble_eq_true rfl, fun C hC hR => hC _ _ _ _ _ _ ?_⟩
  obtain ⟨r1, r2, r3, r4, r5, r6⟩ := hR
  refine r6 2 1053 _ _ _ _ _ (by decide +kernel) (q_G_i 236 (by decide +kernel) rfl) (hC _ _ _ _ _ _ ?_) (hC _ _ _ _ _ _ ?_)
  · exact ⟨i, n, _, rfl, rfl, Or.inl rfl, hi, hn, hK⟩
  · exact ⟨by decide, i, n, _, rfl, rfl, Or.inr rfl, hi, hn, hK⟩
theorem q_str_c : ∀ x ∈ q_str, ∀ b ∈ x.2.2.2, ((b &&& 255).toUInt32 % 65536).toInt32 = b ∧ narrow .char (.int b) = .int b := by decide +kernel
theorem q_str_n : ∀ x ∈ q_str, x.2.2.2.length < 100 := by decide +kernel
def tJ1_charAt_3b067 : List q_I := [(0, .iload_n 1, 1, 0, 0), (1, .aload_n 0, 1, 0, 0), (2, .arraylength, 1, 0, 0), (3, .invokestatic 9, 3, 0, 0), (6, .aload_n 0, 1, 0, 0), (7, .iload_n 1, 1, 0, 0), (8, .baload, 1, 0, 0), (9, .sipush 255, 3, 255, 0), (12, .iand, 1, 0, 0), (13, .i2c, 1, 0, 0), (14, .ireturn, 1, 0, 0)]
theorem tJ1_charAt_3b067_ok : (tJ1_charAt_3b067.all (q_okI cJ1_charAt_3b067)) = true := by decide +kernel

abbrev fdJ1_charAt_3b067 : List (Nat ⊕ (Nat × Nat)) := []
def spJ1_charAt_3b067 : q_P := fun a w K => ∃ (t k : Nat) (x : String × Nat × String × List Int32), w = [] ∧ a = [.retAddr (45 + t), .int (nI k)] ∧ q_str[t]? = some x ∧ k < x.2.2.2.length ∧ K (.inl (some (.int (x.2.2.2.getD k 0)))) []
abbrev csJ1_charAt_3b067 : q_S := (2, 99, 2, 2, 0, 0, fdJ1_charAt_3b067, spJ1_charAt_3b067)
theorem coJ1_9 (l : Launch) : q_CO l RJ1 9 csJ0_checkIndex_df160 := ⟨yJ0_checkIndex_df160, cJ0_checkIndex_df160, none, 2, ⟨by decide +kernel, by decide +kernel, by decide +kernel⟩, q_G_i 7 (by decide +kernel) rfl, Or.inr (Or.inr (Or.inr ⟨rfl, rfl, q_G_i 233 (by decide +kernel) rfl, q_G_i 234 (by decide +kernel) rfl, Or.inl ⟨q_G_i 235 (by decide +kernel) rfl, ctJ0_checkIndex_df160 l⟩⟩))⟩
def EJ1_charAt_3b067 : q_E := (tJ1_charAt_3b067, [(2, [0, 1]), (8, [0, 1])], 2, [], [(9, csJ0_checkIndex_df160)], [], [], [], [], [], 2, 0, 0, (some .char), [], [], 0, 0)
theorem okJ1_charAt_3b067 (l : Launch) : q_Eok l RJ1 cJ1_charAt_3b067 EJ1_charAt_3b067 := ⟨tJ1_charAt_3b067_ok, q_nil, List.forall_mem_cons.mpr ⟨(coJ1_9 l), q_nil⟩, q_nil, q_nil, q_nil, q_nil, q_nil, (fun h => absurd h (by decide))⟩
set_option maxRecDepth 100000 in
set_option maxHeartbeats 4000000 in
theorem ctJ1_charAt_3b067 (l : Launch) : q_CT l yJ1_charAt_3b067 (.code yJ1_charAt_3b067 cJ1_charAt_3b067 2 (some .char)) 2 0 0 spJ1_charAt_3b067 := by
  refine q_ct_ofJ EJ1_charAt_3b067 (by decide +kernel) (okJ1_charAt_3b067 l) rfl rfl rfl rfl rfl q_nil (fun ci h => by cases h) rfl ?_
  intro a w K h
  obtain ⟨t, k, x, rfl, rfl, hx, hk, hK⟩ := h
  have hm := List.mem_of_getElem? hx
  have hn := q_str_n x hm
  have hkc : (nI k).toNatClampNeg = k := nI_clamp (by omega)
  obtain ⟨e1, e2⟩ := q_str_c x hm (x.2.2.2.getD k 0) (by rw [List.getD_eq_getElem?_getD, List.getElem?_eq_getElem hk]; exact List.getElem_mem hk)
  refine ⟨Nat.le_of_ble_eq_true rfl, fun C hC hR => hC _ _ _ _ _ _ ?_⟩
  obtain ⟨r1, r2, r3, r4, r5, r6⟩ := hR
  refine r3 2 _ _ _ _ _ t x (by decide +kernel) hx (hC _ _ _ _ _ _ ?_)
  refine ⟨k, x.2.2.2.length, rfl, rfl, hk, by omega, ?_⟩
  refine r4 8 _ _ _ _ _ t x _ (by decide +kernel) hx (vp_in_nI hk (by omega)) (hC _ _ _ _ _ _ ?_)
  show narrow .char (.int (((x.2.2.2.getD (nI k).toNatClampNeg 0) &&& 255).toUInt32 % 65536).toInt32) = .int (((x.2.2.2.getD (nI k).toNatClampNeg 0) &&& 255).toUInt32 % 65536).toInt32 ∧ K (.inl (some (.int (((x.2.2.2.getD (nI k).toNatClampNeg 0) &&& 255).toUInt32 % 65536).toInt32))) []
  rw [hkc, e1]
  exact ⟨e2, hK⟩
def tJ0_charAt_5068e : List q_I := [(0, .aload_n 0, 1, 0, 0), (1, .invokevirtual 492, 3, 0, 0), (4, .ifCond .eq 12, 3, 0, 16), (7, .aload_n 0, 1, 0, 0), (8, .getfield 9, 3, 0, 0), (11, .iload_n 1, 1, 0, 0), (12, .invokestatic 495, 3, 0, 0), (15, .ireturn, 1, 0, 0), (16, .aload_n 0, 1, 0, 0), (17, .getfield 9, 3, 0, 0), (20, .iload_n 1, 1, 0, 0), (21, .invokestatic 498, 3, 0, 0), (24, .ireturn, 1, 0, 0)]
theorem tJ0_charAt_5068e_ok : (tJ0_charAt_5068e.all (q_okI cJ0_charAt_5068e)) = true := by decide +kernel

abbrev fdJ0_charAt_5068e : List (Nat ⊕ (Nat × Nat)) := []
def spJ0_charAt_5068e : q_P := fun a w K => ∃ (t k : Nat) (x : String × Nat × String × List Int32), w = [] ∧ a = [.retAddr t, .int (nI k)] ∧ q_str[t]? = some x ∧ k < x.2.2.2.length ∧ K (.inl (some (.int (x.2.2.2.getD k 0)))) []
abbrev csJ0_charAt_5068e : q_S := (2, 98, 3, 2, 0, 0, fdJ0_charAt_5068e, spJ0_charAt_5068e)
theorem coJ0_492 (l : Launch) : q_CO l RJ0 492 csJ0_isLatin1_aae02 := ⟨yJ0_isLatin1_aae02, cJ0_isLatin1_aae02, (some .boolean), 0, ⟨by decide +kernel, by decide +kernel, by decide +kernel⟩, q_G_i 7 (by decide +kernel) rfl, Or.inr (Or.inr (Or.inl ⟨rfl, rfl, rfl, q_G_i 226 (by decide +kernel) rfl, q_G_i 227 (by decide +kernel) rfl, q_G_i 228 (by decide +kernel) rfl, q_G_i 229 (by decide +kernel) rfl, ctJ0_isLatin1_aae02 l⟩))⟩
theorem coJ0_495 (l : Launch) : q_CO l RJ0 495 csJ1_charAt_3b067 := ⟨yJ1_charAt_3b067, cJ1_charAt_3b067, (some .char), 2, ⟨by decide +kernel, by decide +kernel, by decide +kernel⟩, q_G_i 8 (by decide +kernel) rfl, Or.inr (Or.inr (Or.inr ⟨rfl, rfl, q_G_i 230 (by decide +kernel) rfl, q_G_i 231 (by decide +kernel) rfl, Or.inl ⟨q_G_i 232 (by decide +kernel) rfl, ctJ1_charAt_3b067 l⟩⟩))⟩
def EJ0_charAt_5068e : q_E := (tJ0_charAt_5068e, [(8, [0, 1])], 2, [], [(492, csJ0_isLatin1_aae02), (495, csJ1_charAt_3b067)], [], [], [], [], [], 3, 0, 0, (some .char), [], [], 0, 0)
theorem okJ0_charAt_5068e (l : Launch) : q_Eok l RJ0 cJ0_charAt_5068e EJ0_charAt_5068e := ⟨tJ0_charAt_5068e_ok, q_nil, List.forall_mem_cons.mpr ⟨(coJ0_492 l), List.forall_mem_cons.mpr ⟨(coJ0_495 l), q_nil⟩⟩, q_nil, q_nil, q_nil, q_nil, q_nil, (fun h => absurd h (by decide))⟩
set_option maxRecDepth 100000 in
set_option maxHeartbeats 4000000 in
theorem ctJ0_charAt_5068e (l : Launch) : q_CT l yJ0_charAt_5068e (.code yJ0_charAt_5068e cJ0_charAt_5068e 2 (some .char)) 3 0 0 spJ0_charAt_5068e := by
  refine q_ct_ofJ EJ0_charAt_5068e (by decide +kernel) (okJ0_charAt_5068e l) rfl rfl rfl rfl rfl q_nil (fun ci h => by cases h) rfl ?_
  intro a w K h
  obtain ⟨t, k, x, rfl, rfl, hx, hk, hK⟩ := h
  have ht := q_str_lt hx
  have hm := List.mem_of_getElem? hx
  obtain ⟨e1, e2⟩ := q_str_c x hm (x.2.2.2.getD k 0) (by rw [List.getD_eq_getElem?_getD, List.getElem?_eq_getElem hk]; exact List.getElem_mem hk)
  refine ⟨Nat.le_of_ble_eq_true rfl, fun C hC hR => hC _ _ _ _ _ _ ?_⟩
  obtain ⟨r1, r2, r3, r4, r5, r6⟩ := hR
  refine ⟨ht, by omega, t, rfl, rfl, ht, And.intro (fun c => absurd c (by decide)) (fun _ => ?_)⟩
  refine r2 8 9 _ _ _ _ _ t x (by decide +kernel) (q_G_i 1956 (by decide +kernel) rfl) hx (hC _ _ _ _ _ _ ?_)
  exact ⟨by omega, t, k, x, rfl, rfl, hx, hk, e2, hK⟩
