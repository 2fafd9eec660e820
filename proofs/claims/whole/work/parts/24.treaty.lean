/-- clauses, words, foes, barred, tried, chosen, most, quarrels, stale -/
abbrev YT : Type := (Nat → Int32) × (Nat → Int32) × (Nat → Int32) × (Nat → Int32) × (Nat → Int32) × (Nat → Int32) × Int32 × Nat × Int32
def treatyW (o : Nat) (Y : YT) : List q_C := [.inr (9, [.ref (o + 1), .ref (o + 2), .ref (o + 3), .ref (o + 4), .ref (o + 5), .ref (o + 6), .int Y.2.2.2.2.2.2.1, .int (nI Y.2.2.2.2.2.2.2.1), .int Y.2.2.2.2.2.2.2.2]), .inl (1, 9, .inl Y.1), .inl (1, 36, .inl Y.2.1), .inl (1, 16, .inl Y.2.2.1), .inl (1, 36, .inl Y.2.2.2.1), .inl (1, 9, .inl Y.2.2.2.2.1), .inl (1, 9, .inl Y.2.2.2.2.2.1)]
def tcF (cl : Nat → Int32) (t : Nat) : Nat := (cl t).toNatClampNeg
def tOk (Y : YT) : Prop := ∀ t, t < 9 → Y.1 t = nI (tcF Y.1 t) ∧ tcF Y.1 t ≤ 4
theorem nI_mul4 (p : Nat) : nI p * 4 = nI (p * 4) := pk_mul p 4

def tX9_clear : List q_I := [(0, .iconst 0, 1, 0, 0), (1, .istore_n 1, 1, 0, 0), (2, .iload_n 1, 1, 0, 0), (3, .bipush 9, 2, 9, 0), (5, .if_icmp .ge 16, 3, 0, 21), (8, .aload_n 0, 1, 0, 0), (9, .getfield 11, 3, 0, 0), (12, .iload_n 1, 1, 0, 0), (13, .iconst 0, 1, 0, 0), (14, .iastore, 1, 0, 0), (15, .iinc 1 1, 3, 1, 0), (18, .goto (-16), 3, 0, 2), (21, .iconst 0, 1, 0, 0), (22, .istore_n 1, 1, 0, 0), (23, .iload_n 1, 1, 0, 0), (24, .bipush 16, 2, 16, 0), (26, .if_icmp .ge 16, 3, 0, 42), (29, .aload_n 0, 1, 0, 0), (30, .getfield 18, 3, 0, 0), (33, .iload_n 1, 1, 0, 0), (34, .iconst 0, 1, 0, 0), (35, .iastore, 1, 0, 0), (36, .iinc 1 1, 3, 1, 0), (39, .goto (-16), 3, 0, 23), (42, .aload_n 0, 1, 0, 0), (43, .iconst 0, 1, 0, 0), (44, .putfield 34, 3, 0, 0), (47, .aload_n 0, 1, 0, 0), (48, .iconst 1, 1, 1, 0), (49, .putfield 30, 3, 0, 0), (52, .return_, 1, 0, 0)]
theorem tX9_clear_ok : (tX9_clear.all (q_okI cX9_clear)) = true := by decide +kernel

abbrev fdX9_clear : List (Nat ⊕ (Nat × Nat)) := [.inl 0, .inr (0, 0), .inr (0, 1), .inr (0, 2), .inr (0, 3), .inr (0, 4), .inr (0, 5)]
def spX9_clear : q_P := fun a w K => ∃ (Y : YT), w = treatyW 0 Y ∧ a = [.ref 0] ∧ K (.inl none) (treatyW 0 (zf 0 Y.1 9, Y.2.1, zf 0 Y.2.2.1 16, Y.2.2.2.1, Y.2.2.2.2.1, Y.2.2.2.2.2.1, Y.2.2.2.2.2.2.1, 0, 1))
abbrev csX9_clear : q_S := (1, 9, 0, 2, 0, 0, fdX9_clear, spX9_clear)
def EX9_clear : q_E := (tX9_clear, [(2, [0, 1]), (23, [0, 1])], 2, flX9, [], [], [], [], [], [], 0, 0, 0, none, [], [], 0, 0)
theorem okX9_clear (l : Launch) : q_Eok l RX9 cX9_clear EX9_clear := ⟨tX9_clear_ok, flX9_ok, q_nil, q_nil, q_nil, q_nil, q_nil, q_nil, (fun h => absurd h (by decide))⟩
set_option maxRecDepth 100000 in
set_option maxHeartbeats 4000000 in
theorem ctX9_clear (l : Launch) : q_CT l yX9_clear (.code yX9_clear cX9_clear 2 none) 0 0 0 spX9_clear := by
  refine q_ct_of EX9_clear (by decide +kernel) (okX9_clear l) rfl rfl rfl rfl rfl q_nil (fun ci h => by cases h) rfl ?_
  intro a w K h
  obtain ⟨Y, rfl, rfl, hK⟩ := h
  refine ⟨Nat.le_of_ble_eq_true rfl, fun C hC => ?_⟩
  have two : ∀ k i, i + k = 16 → C 23 [(0, .ref 0), (1, .int (nI i))] [] (treatyW 0 (zf 0 Y.1 9, Y.2.1, zf 0 Y.2.2.1 i, Y.2.2.2)) 0 0 := by
    intro k
    induction k with
    | zero =>
      intro i hi
      have hi : i = 16 := by omega
      subst hi
      refine hC _ _ _ _ _ _ ?_
      exact And.intro (fun c1 => ⟨rfl, hK⟩) (fun c1 => absurd (Int32.le_refl _) c1)
    | succ k ih =>
      intro i hi
      have hci : (nI i).toNatClampNeg = i := nI_clamp (by omega)
      refine hC _ _ _ _ _ _ ?_
      refine And.intro (fun c1 => absurd c1 (nI_ge (b := 16) (by omega) (by omega))) (fun c1 => ⟨vp_in_nI (by omega) (by omega), ?_⟩)
      have h9 := ih (i + 1) (by omega)
      rw [← nI_1, ← zf_s 0 Y.2.2.1 i] at h9
      have e1 : ∀ (f : Nat → Int32) (z : Int32), upd f i z = upd f (nI i).toNatClampNeg z := fun f z => by rw [hci]
      rw [e1] at h9
      exact h9
  have one : ∀ k i, i + k = 9 → C 2 [(0, .ref 0), (1, .int (nI i))] [] (treatyW 0 (zf 0 Y.1 i, Y.2)) 0 0 := by
    intro k
    induction k with
    | zero =>
      intro i hi
      have hi : i = 9 := by omega
      subst hi
      refine hC _ _ _ _ _ _ ?_
      refine And.intro (fun c1 => ?_) (fun c1 => absurd (Int32.le_refl _) c1)
      have h9 := two 16 0 rfl
      rw [zf_0] at h9
      exact h9
    | succ k ih =>
      intro i hi
      have hci : (nI i).toNatClampNeg = i := nI_clamp (by omega)
      refine hC _ _ _ _ _ _ ?_
      refine And.intro (fun c1 => absurd c1 (nI_ge (b := 9) (by omega) (by omega))) (fun c1 => ⟨vp_in_nI (by omega) (by omega), ?_⟩)
      have h9 := ih (i + 1) (by omega)
      rw [← nI_1, ← zf_s] at h9
      have e1 : ∀ (f : Nat → Int32) (z : Int32), upd f i z = upd f (nI i).toNatClampNeg z := fun f z => by rw [hci]
      rw [e1] at h9
      exact h9
  have h9 := one 9 0 rfl
  rw [zf_0] at h9
  exact hC _ _ _ _ _ _ h9
def tX9_isThing : List q_I := [(0, .iload_n 0, 1, 0, 0), (1, .ifCond .lt 13, 3, 0, 14), (4, .iload_n 0, 1, 0, 0), (5, .bipush 9, 2, 9, 0), (7, .if_icmp .ge 7, 3, 0, 14), (10, .iconst 1, 1, 1, 0), (11, .goto 4, 3, 0, 15), (14, .iconst 0, 1, 0, 0), (15, .ireturn, 1, 0, 0)]
theorem tX9_isThing_ok : (tX9_isThing.all (q_okI cX9_isThing)) = true := by decide +kernel

abbrev fdX9_isThing : List (Nat ⊕ (Nat × Nat)) := []
def spX9_isThing : q_P := fun a w K => ∃ (x : Int32), w = [] ∧ a = [.int x] ∧ K (.inl (some (.int (bI (decide (0 ≤ x ∧ x < 9)))))) []
abbrev csX9_isThing : q_S := (1, 99, 0, 1, 0, 0, fdX9_isThing, spX9_isThing)
def EX9_isThing : q_E := (tX9_isThing, [], 1, flX9, [], [], [], [], [], [], 0, 0, 0, (some .boolean), [], [], 0, 0)
theorem okX9_isThing (l : Launch) : q_Eok l RX9 cX9_isThing EX9_isThing := ⟨tX9_isThing_ok, flX9_ok, q_nil, q_nil, q_nil, q_nil, q_nil, q_nil, (fun h => absurd h (by decide))⟩
set_option maxRecDepth 100000 in
set_option maxHeartbeats 4000000 in
theorem ctX9_isThing (l : Launch) : q_CT l yX9_isThing (.code yX9_isThing cX9_isThing 1 (some .boolean)) 0 0 0 spX9_isThing := by
  refine q_ct_of EX9_isThing (by decide +kernel) (okX9_isThing l) rfl rfl rfl rfl rfl q_nil (fun ci h => by cases h) rfl ?_
  intro a w K h
  obtain ⟨x, rfl, rfl, hK⟩ := h
  refine ⟨Nat.le_of_ble_eq_true rfl, fun C hC => hC _ _ _ _ _ _ ?_⟩
  refine And.intro (fun c => ⟨rfl, ?_⟩) (fun c => And.intro (fun c2 => ⟨rfl, ?_⟩) (fun c2 => ⟨rfl, ?_⟩))
  · rw [bI_f (fun z => absurd c (Int32.not_lt.mpr z.1))] at hK; exact hK
  · rw [bI_f (fun z => absurd c2 (Int32.not_le.mpr z.2))] at hK; exact hK
  · rw [bI_t ⟨Int32.not_lt.mp c, Int32.not_le.mp c2⟩] at hK; exact hK
def tX9_isWord : List q_I := [(0, .iload_n 0, 1, 0, 0), (1, .ifCond .lt 13, 3, 0, 14), (4, .iload_n 0, 1, 0, 0), (5, .bipush 16, 2, 16, 0), (7, .if_icmp .ge 7, 3, 0, 14), (10, .iconst 1, 1, 1, 0), (11, .goto 4, 3, 0, 15), (14, .iconst 0, 1, 0, 0), (15, .ireturn, 1, 0, 0)]
theorem tX9_isWord_ok : (tX9_isWord.all (q_okI cX9_isWord)) = true := by decide +kernel

abbrev fdX9_isWord : List (Nat ⊕ (Nat × Nat)) := []
def spX9_isWord : q_P := fun a w K => ∃ (x : Int32), w = [] ∧ a = [.int x] ∧ K (.inl (some (.int (bI (decide (0 ≤ x ∧ x < 16)))))) []
abbrev csX9_isWord : q_S := (1, 99, 0, 1, 0, 0, fdX9_isWord, spX9_isWord)
def EX9_isWord : q_E := (tX9_isWord, [], 1, flX9, [], [], [], [], [], [], 0, 0, 0, (some .boolean), [], [], 0, 0)
theorem okX9_isWord (l : Launch) : q_Eok l RX9 cX9_isWord EX9_isWord := ⟨tX9_isWord_ok, flX9_ok, q_nil, q_nil, q_nil, q_nil, q_nil, q_nil, (fun h => absurd h (by decide))⟩
set_option maxRecDepth 100000 in
set_option maxHeartbeats 4000000 in
theorem ctX9_isWord (l : Launch) : q_CT l yX9_isWord (.code yX9_isWord cX9_isWord 1 (some .boolean)) 0 0 0 spX9_isWord := by
  refine q_ct_of EX9_isWord (by decide +kernel) (okX9_isWord l) rfl rfl rfl rfl rfl q_nil (fun ci h => by cases h) rfl ?_
  intro a w K h
  obtain ⟨x, rfl, rfl, hK⟩ := h
  refine ⟨Nat.le_of_ble_eq_true rfl, fun C hC => hC _ _ _ _ _ _ ?_⟩
  refine And.intro (fun c => ⟨rfl, ?_⟩) (fun c => And.intro (fun c2 => ⟨rfl, ?_⟩) (fun c2 => ⟨rfl, ?_⟩))
  · rw [bI_f (fun z => absurd c (Int32.not_lt.mpr z.1))] at hK; exact hK
  · rw [bI_f (fun z => absurd c2 (Int32.not_le.mpr z.2))] at hK; exact hK
  · rw [bI_t ⟨Int32.not_lt.mp c, Int32.not_le.mp c2⟩] at hK; exact hK
def tX9_hasClauseRoom : List q_I := [(0, .aload_n 0, 1, 0, 0), (1, .getfield 11, 3, 0, 0), (4, .iload_n 1, 1, 0, 0), (5, .iaload, 1, 0, 0), (6, .iconst 4, 1, 4, 0), (7, .if_icmp .ge 7, 3, 0, 14), (10, .iconst 1, 1, 1, 0), (11, .goto 4, 3, 0, 15), (14, .iconst 0, 1, 0, 0), (15, .ireturn, 1, 0, 0)]
theorem tX9_hasClauseRoom_ok : (tX9_hasClauseRoom.all (q_okI cX9_hasClauseRoom)) = true := by decide +kernel

abbrev fdX9_hasClauseRoom : List (Nat ⊕ (Nat × Nat)) := [.inl 0, .inr (0, 0), .inr (0, 1), .inr (0, 2), .inr (0, 3), .inr (0, 4), .inr (0, 5)]
def spX9_hasClauseRoom : q_P := fun a w K => ∃ (Y : YT) (t : Nat), w = treatyW 0 Y ∧ a = [.ref 0, .int (nI t)] ∧ tOk Y ∧ t < 9 ∧ K (.inl (some (.int (bI (decide (tcF Y.1 t < 4)))))) (treatyW 0 Y)
abbrev csX9_hasClauseRoom : q_S := (2, 9, 0, 2, 0, 0, fdX9_hasClauseRoom, spX9_hasClauseRoom)
def EX9_hasClauseRoom : q_E := (tX9_hasClauseRoom, [], 2, flX9, [], [], [], [], [], [], 0, 0, 0, (some .boolean), [], [], 0, 0)
theorem okX9_hasClauseRoom (l : Launch) : q_Eok l RX9 cX9_hasClauseRoom EX9_hasClauseRoom := ⟨tX9_hasClauseRoom_ok, flX9_ok, q_nil, q_nil, q_nil, q_nil, q_nil, q_nil, (fun h => absurd h (by decide))⟩
set_option maxRecDepth 100000 in
set_option maxHeartbeats 4000000 in
theorem ctX9_hasClauseRoom (l : Launch) : q_CT l yX9_hasClauseRoom (.code yX9_hasClauseRoom cX9_hasClauseRoom 2 (some .boolean)) 0 0 0 spX9_hasClauseRoom := by
  refine q_ct_of EX9_hasClauseRoom (by decide +kernel) (okX9_hasClauseRoom l) rfl rfl rfl rfl rfl q_nil (fun ci h => by cases h) rfl ?_
  intro a w K h
  obtain ⟨Y, t, rfl, rfl, ho, ht, hK⟩ := h
  obtain ⟨h3, h4⟩ := ho t ht
  have hc : (nI t).toNatClampNeg = t := nI_clamp (by omega)
  refine ⟨Nat.le_of_ble_eq_true rfl, fun C hC => hC _ _ _ _ _ _ ?_⟩
  refine ⟨vp_in_nI (by omega) (by omega), And.intro (fun c => ⟨rfl, ?_⟩) (fun c => ⟨rfl, ?_⟩)⟩
  · have c : (4 : Int32) ≤ Y.1 (nI t).toNatClampNeg := c
    rw [hc, h3] at c
    rw [bI_f (fun z => nI_ge (b := 4) z (by omega) c)] at hK; exact hK
  · have c : ¬ (4 : Int32) ≤ Y.1 (nI t).toNatClampNeg := c
    rw [hc, h3] at c
    rw [bI_t (lt_of_nI (b := 4) (by omega) (by omega) c)] at hK; exact hK
def clauseAdd (Y : YT) (t : Nat) (x : Int32) : YT := (upd Y.1 t (nI (tcF Y.1 t + 1)), upd Y.2.1 (t * 4 + tcF Y.1 t) x, Y.2.2.1, Y.2.2.2.1, Y.2.2.2.2.1, Y.2.2.2.2.2.1, Y.2.2.2.2.2.2.1, Y.2.2.2.2.2.2.2.1, 1)
def tX9_addClause : List q_I := [(0, .aload_n 0, 1, 0, 0), (1, .getfield 15, 3, 0, 0), (4, .iload_n 1, 1, 0, 0), (5, .iconst 4, 1, 4, 0), (6, .imul, 1, 0, 0), (7, .aload_n 0, 1, 0, 0), (8, .getfield 11, 3, 0, 0), (11, .iload_n 1, 1, 0, 0), (12, .iaload, 1, 0, 0), (13, .iadd, 1, 0, 0), (14, .iload_n 2, 1, 0, 0), (15, .iastore, 1, 0, 0), (16, .aload_n 0, 1, 0, 0), (17, .getfield 11, 3, 0, 0), (20, .iload_n 1, 1, 0, 0), (21, .dup2, 1, 0, 0), (22, .iaload, 1, 0, 0), (23, .iconst 1, 1, 1, 0), (24, .iadd, 1, 0, 0), (25, .iastore, 1, 0, 0), (26, .aload_n 0, 1, 0, 0), (27, .iconst 1, 1, 1, 0), (28, .putfield 30, 3, 0, 0), (31, .aload_n 0, 1, 0, 0), (32, .getfield 11, 3, 0, 0), (35, .iload_n 1, 1, 0, 0), (36, .iaload, 1, 0, 0), (37, .iconst 1, 1, 1, 0), (38, .isub, 1, 0, 0), (39, .ireturn, 1, 0, 0)]
theorem tX9_addClause_ok : (tX9_addClause.all (q_okI cX9_addClause)) = true := by decide +kernel

abbrev fdX9_addClause : List (Nat ⊕ (Nat × Nat)) := [.inl 0, .inr (0, 0), .inr (0, 1), .inr (0, 2), .inr (0, 3), .inr (0, 4), .inr (0, 5)]
def spX9_addClause : q_P := fun a w K => ∃ (Y : YT) (t : Nat) (x : Int32), w = treatyW 0 Y ∧ a = [.ref 0, .int (nI t), .int x] ∧ tOk Y ∧ t < 9 ∧ tcF Y.1 t < 4 ∧ K (.inl (some (.int (nI (tcF Y.1 t))))) (treatyW 0 (clauseAdd Y t x))
abbrev csX9_addClause : q_S := (3, 9, 0, 3, 0, 0, fdX9_addClause, spX9_addClause)
def EX9_addClause : q_E := (tX9_addClause, [], 3, flX9, [], [], [], [], [], [], 0, 0, 0, (some .int), [], [], 0, 0)
theorem okX9_addClause (l : Launch) : q_Eok l RX9 cX9_addClause EX9_addClause := ⟨tX9_addClause_ok, flX9_ok, q_nil, q_nil, q_nil, q_nil, q_nil, q_nil, (fun h => absurd h (by decide))⟩
set_option maxRecDepth 100000 in
set_option maxHeartbeats 4000000 in
theorem ctX9_addClause (l : Launch) : q_CT l yX9_addClause (.code yX9_addClause cX9_addClause 3 (some .int)) 0 0 0 spX9_addClause := by
  refine q_ct_of EX9_addClause (by decide +kernel) (okX9_addClause l) rfl rfl rfl rfl rfl q_nil (fun ci h => by cases h) rfl ?_
  intro a w K h
  obtain ⟨Y, t, x, rfl, rfl, ho, ht, hl, hK⟩ := h
  obtain ⟨h3, h4⟩ := ho t ht
  have hc : (nI t).toNatClampNeg = t := nI_clamp (by omega)
  have hv : vp_in (nI t) 9 := vp_in_nI (by omega) (by omega)
  have e2 : nI t * 4 + Y.1 (nI t).toNatClampNeg = nI (t * 4 + tcF Y.1 t) := by rw [hc, h3, nI_mul4, nI_add]
  have hv2 : vp_in (nI t * 4 + Y.1 (nI t).toNatClampNeg) 36 := by rw [e2]; exact vp_in_nI (by omega) (by omega)
  have hc2 : (nI (t * 4 + tcF Y.1 t)).toNatClampNeg = t * 4 + tcF Y.1 t := nI_clamp (by omega)
  refine ⟨Nat.le_of_ble_eq_true rfl, fun C hC => hC _ _ _ _ _ _ ?_⟩
  refine ⟨hv, hv2, hv, hv, rfl, hv, ?_⟩
  show K (.inl (some (.int _))) _
  simp only [e2]
  simp only [hc2, hc, pk_us]
  simp only [h3, nI_1, nI_pred]
  exact hK
def foesQ (f : Nat → Int32) (a b : Nat) : Nat → Int32 := upd (upd f a (f a ||| (1 : Int32) <<< (nI b &&& 31))) b ((upd f a (f a ||| (1 : Int32) <<< (nI b &&& 31))) b ||| (1 : Int32) <<< (nI a &&& 31))
def tX9_addQuarrel : List q_I := [(0, .aload_n 0, 1, 0, 0), (1, .getfield 18, 3, 0, 0), (4, .iload_n 1, 1, 0, 0), (5, .dup2, 1, 0, 0), (6, .iaload, 1, 0, 0), (7, .iconst 1, 1, 1, 0), (8, .iload_n 2, 1, 0, 0), (9, .ishl, 1, 0, 0), (10, .ior, 1, 0, 0), (11, .iastore, 1, 0, 0), (12, .aload_n 0, 1, 0, 0), (13, .getfield 18, 3, 0, 0), (16, .iload_n 2, 1, 0, 0), (17, .dup2, 1, 0, 0), (18, .iaload, 1, 0, 0), (19, .iconst 1, 1, 1, 0), (20, .iload_n 1, 1, 0, 0), (21, .ishl, 1, 0, 0), (22, .ior, 1, 0, 0), (23, .iastore, 1, 0, 0), (24, .aload_n 0, 1, 0, 0), (25, .dup, 1, 0, 0), (26, .getfield 34, 3, 0, 0), (29, .iconst 1, 1, 1, 0), (30, .iadd, 1, 0, 0), (31, .putfield 34, 3, 0, 0), (34, .aload_n 0, 1, 0, 0), (35, .iconst 1, 1, 1, 0), (36, .putfield 30, 3, 0, 0), (39, .aload_n 0, 1, 0, 0), (40, .getfield 34, 3, 0, 0), (43, .ireturn, 1, 0, 0)]
theorem tX9_addQuarrel_ok : (tX9_addQuarrel.all (q_okI cX9_addQuarrel)) = true := by decide +kernel

abbrev fdX9_addQuarrel : List (Nat ⊕ (Nat × Nat)) := [.inl 0, .inr (0, 0), .inr (0, 1), .inr (0, 2), .inr (0, 3), .inr (0, 4), .inr (0, 5)]
def spX9_addQuarrel : q_P := fun a w K => ∃ (Y : YT) (x y : Nat), w = treatyW 0 Y ∧ a = [.ref 0, .int (nI x), .int (nI y)] ∧ x < 16 ∧ y < 16 ∧ K (.inl (some (.int (nI (Y.2.2.2.2.2.2.2.1 + 1))))) (treatyW 0 (Y.1, Y.2.1, foesQ Y.2.2.1 x y, Y.2.2.2.1, Y.2.2.2.2.1, Y.2.2.2.2.2.1, Y.2.2.2.2.2.2.1, Y.2.2.2.2.2.2.2.1 + 1, 1))
abbrev csX9_addQuarrel : q_S := (3, 9, 0, 3, 0, 0, fdX9_addQuarrel, spX9_addQuarrel)
def EX9_addQuarrel : q_E := (tX9_addQuarrel, [], 3, flX9, [], [], [], [], [], [], 0, 0, 0, (some .int), [], [], 0, 0)
theorem okX9_addQuarrel (l : Launch) : q_Eok l RX9 cX9_addQuarrel EX9_addQuarrel := ⟨tX9_addQuarrel_ok, flX9_ok, q_nil, q_nil, q_nil, q_nil, q_nil, q_nil, (fun h => absurd h (by decide))⟩
set_option maxRecDepth 100000 in
set_option maxHeartbeats 4000000 in
theorem ctX9_addQuarrel (l : Launch) : q_CT l yX9_addQuarrel (.code yX9_addQuarrel cX9_addQuarrel 3 (some .int)) 0 0 0 spX9_addQuarrel := by
  refine q_ct_of EX9_addQuarrel (by decide +kernel) (okX9_addQuarrel l) rfl rfl rfl rfl rfl q_nil (fun ci h => by cases h) rfl ?_
  intro a w K h
  obtain ⟨Y, x, y, rfl, rfl, hx, hy, hK⟩ := h
  have hcx : (nI x).toNatClampNeg = x := nI_clamp (by omega)
  have hcy : (nI y).toNatClampNeg = y := nI_clamp (by omega)
  have hvx : vp_in (nI x) 16 := vp_in_nI (by omega) (by omega)
  have hvy : vp_in (nI y) 16 := vp_in_nI (by omega) (by omega)
  refine ⟨Nat.le_of_ble_eq_true rfl, fun C hC => hC _ _ _ _ _ _ ?_⟩
  refine ⟨hvx, hvx, hvy, hvy, rfl, ?_⟩
  show K (.inl (some (.int _))) _
  simp only [hcx, hcy, nI_1]
  exact hK
def foeF (f : Nat → Int32) (set : Int32) : Nat → Int32
  | 0 => 0
  | i + 1 => if (set >>> (nI i &&& 31)) &&& 1 = 0 then foeF f set i else foeF f set i ||| f i
def tX9_foesOf : List q_I := [(0, .iconst 0, 1, 0, 0), (1, .istore_n 2, 1, 0, 0), (2, .iconst 0, 1, 0, 0), (3, .istore_n 3, 1, 0, 0), (4, .iload_n 3, 1, 0, 0), (5, .bipush 16, 2, 16, 0), (7, .if_icmp .ge 26, 3, 0, 33), (10, .iload_n 1, 1, 0, 0), (11, .iload_n 3, 1, 0, 0), (12, .ishr, 1, 0, 0), (13, .iconst 1, 1, 1, 0), (14, .iand, 1, 0, 0), (15, .ifCond .eq 12, 3, 0, 27), (18, .iload_n 2, 1, 0, 0), (19, .aload_n 0, 1, 0, 0), (20, .getfield 18, 3, 0, 0), (23, .iload_n 3, 1, 0, 0), (24, .iaload, 1, 0, 0), (25, .ior, 1, 0, 0), (26, .istore_n 2, 1, 0, 0), (27, .iinc 3 1, 3, 1, 0), (30, .goto (-26), 3, 0, 4), (33, .iload_n 2, 1, 0, 0), (34, .ireturn, 1, 0, 0)]
theorem tX9_foesOf_ok : (tX9_foesOf.all (q_okI cX9_foesOf)) = true := by decide +kernel

abbrev fdX9_foesOf : List (Nat ⊕ (Nat × Nat)) := [.inl 0, .inr (0, 0), .inr (0, 1), .inr (0, 2), .inr (0, 3), .inr (0, 4), .inr (0, 5)]
def spX9_foesOf : q_P := fun a w K => ∃ (Y : YT) (x : Int32), w = treatyW 0 Y ∧ a = [.ref 0, .int x] ∧ K (.inl (some (.int (foeF Y.2.2.1 x 16)))) (treatyW 0 Y)
abbrev csX9_foesOf : q_S := (2, 9, 0, 4, 0, 0, fdX9_foesOf, spX9_foesOf)
def EX9_foesOf : q_E := (tX9_foesOf, [(4, [0, 1, 2, 3])], 4, flX9, [], [], [], [], [], [], 0, 0, 0, (some .int), [], [], 0, 0)
theorem okX9_foesOf (l : Launch) : q_Eok l RX9 cX9_foesOf EX9_foesOf := ⟨tX9_foesOf_ok, flX9_ok, q_nil, q_nil, q_nil, q_nil, q_nil, q_nil, (fun h => absurd h (by decide))⟩
set_option maxRecDepth 100000 in
set_option maxHeartbeats 4000000 in
theorem ctX9_foesOf (l : Launch) : q_CT l yX9_foesOf (.code yX9_foesOf cX9_foesOf 4 (some .int)) 0 0 0 spX9_foesOf := by
  refine q_ct_of EX9_foesOf (by decide +kernel) (okX9_foesOf l) rfl rfl rfl rfl rfl q_nil (fun ci h => by cases h) rfl ?_
  intro a w K h
  obtain ⟨Y, x, rfl, rfl, hK⟩ := h
  refine ⟨Nat.le_of_ble_eq_true rfl, fun C hC => ?_⟩
  have loop : ∀ k i, i + k = 16 → C 4 [(0, .ref 0), (1, .int x), (2, .int (foeF Y.2.2.1 x i)), (3, .int (nI i))] [] (treatyW 0 Y) 0 0 := by
    intro k
    induction k with
    | zero =>
      intro i hi
      have hi : i = 16 := by omega
      subst hi
      refine hC _ _ _ _ _ _ ?_
      exact And.intro (fun c1 => hK) (fun c1 => absurd (Int32.le_refl _) c1)
    | succ k ih =>
      intro i hi
      have hv : vp_in (nI i) 16 := vp_in_nI (by omega) (by omega)
      have hc : (nI i).toNatClampNeg = i := nI_clamp (by omega)
      have h9 := ih (i + 1) (by omega)
      rw [← nI_1] at h9
      refine hC _ _ _ _ _ _ ?_
      refine And.intro (fun c1 => absurd c1 (nI_ge (b := 16) (by omega) (by omega))) (fun c1 => And.intro (fun c2 => ?_) (fun c2 => ⟨hv, ?_⟩))
      · rw [foeF, if_pos c2] at h9; exact h9
      · rw [foeF, if_neg c2] at h9
        have e1 : Y.2.2.1 i = Y.2.2.1 (nI i).toNatClampNeg := by rw [hc]
        rw [e1] at h9
        exact h9
  exact hC _ _ _ _ _ _ (loop 16 0 (by omega))
def mayF (wd br : Nat → Int32) (k : Nat) (bars : Int32) : Bool := decide (wd k &&& (bars ||| br k) = 0)
def tX9_mayStand : List q_I := [(0, .aload_n 0, 1, 0, 0), (1, .getfield 15, 3, 0, 0), (4, .iload_n 1, 1, 0, 0), (5, .iaload, 1, 0, 0), (6, .iload_n 2, 1, 0, 0), (7, .aload_n 0, 1, 0, 0), (8, .getfield 21, 3, 0, 0), (11, .iload_n 1, 1, 0, 0), (12, .iaload, 1, 0, 0), (13, .ior, 1, 0, 0), (14, .iand, 1, 0, 0), (15, .ifCond .ne 7, 3, 0, 22), (18, .iconst 1, 1, 1, 0), (19, .goto 4, 3, 0, 23), (22, .iconst 0, 1, 0, 0), (23, .ireturn, 1, 0, 0)]
theorem tX9_mayStand_ok : (tX9_mayStand.all (q_okI cX9_mayStand)) = true := by decide +kernel

abbrev fdX9_mayStand : List (Nat ⊕ (Nat × Nat)) := [.inl 0, .inr (0, 0), .inr (0, 1), .inr (0, 2), .inr (0, 3), .inr (0, 4), .inr (0, 5)]
def spX9_mayStand : q_P := fun a w K => ∃ (Y : YT) (k : Nat) (x : Int32), w = treatyW 0 Y ∧ a = [.ref 0, .int (nI k), .int x] ∧ k < 36 ∧ K (.inl (some (.int (bI (mayF Y.2.1 Y.2.2.2.1 k x))))) (treatyW 0 Y)
abbrev csX9_mayStand : q_S := (3, 9, 0, 3, 0, 0, fdX9_mayStand, spX9_mayStand)
def EX9_mayStand : q_E := (tX9_mayStand, [], 3, flX9, [], [], [], [], [], [], 0, 0, 0, (some .boolean), [], [], 0, 0)
theorem okX9_mayStand (l : Launch) : q_Eok l RX9 cX9_mayStand EX9_mayStand := ⟨tX9_mayStand_ok, flX9_ok, q_nil, q_nil, q_nil, q_nil, q_nil, q_nil, (fun h => absurd h (by decide))⟩
set_option maxRecDepth 100000 in
set_option maxHeartbeats 4000000 in
theorem ctX9_mayStand (l : Launch) : q_CT l yX9_mayStand (.code yX9_mayStand cX9_mayStand 3 (some .boolean)) 0 0 0 spX9_mayStand := by
  refine q_ct_of EX9_mayStand (by decide +kernel) (okX9_mayStand l) rfl rfl rfl rfl rfl q_nil (fun ci h => by cases h) rfl ?_
  intro a w K h
  obtain ⟨Y, k, x, rfl, rfl, hk, hK⟩ := h
  have hv : vp_in (nI k) 36 := vp_in_nI (by omega) (by omega)
  have hc : (nI k).toNatClampNeg = k := nI_clamp (by omega)
  have hK : K (.inl (some (.int (bI (mayF Y.2.1 Y.2.2.2.1 (nI k).toNatClampNeg x))))) (treatyW 0 Y) := by rw [hc]; exact hK
  refine ⟨Nat.le_of_ble_eq_true rfl, fun C hC => hC _ _ _ _ _ _ ?_⟩
  refine ⟨hv, hv, And.intro (fun c => ⟨rfl, ?_⟩) (fun c => ⟨rfl, ?_⟩)⟩
  · rw [mayF, bI_f c] at hK; exact hK
  · rw [mayF, bI_t c] at hK; exact hK
def frA (cl wd br : Nat → Int32) (bars : Int32) : Nat → Nat → Nat → Nat
  | 0, _, x => x
  | n + 1, t, x => frA cl wd br bars n (t + 1) (if anyF (fun k => mayF wd br k bars) (t * 4) (tcF cl t) then x + 1 else x)
theorem frA_le (cl wd br : Nat → Int32) (bars : Int32) : ∀ n t x, frA cl wd br bars n t x ≤ x + n
  | 0, _, _ => Nat.le_refl _
  | n + 1, t, x => by
    rw [frA]
    split
    · have := frA_le cl wd br bars n (t + 1) (x + 1)
      omega
    · have := frA_le cl wd br bars n (t + 1) x
      omega
def tX9_countFree : List q_I := [(0, .iconst 0, 1, 0, 0), (1, .istore_n 3, 1, 0, 0), (2, .iload_n 1, 1, 0, 0), (3, .istore 4, 2, 0, 0), (5, .iload 4, 2, 0, 0), (7, .bipush 9, 2, 9, 0), (9, .if_icmp .ge 65, 3, 0, 74), (12, .iconst 0, 1, 0, 0), (13, .istore 5, 2, 0, 0), (15, .iconst 0, 1, 0, 0), (16, .istore 6, 2, 0, 0), (18, .iload 6, 2, 0, 0), (20, .aload_n 0, 1, 0, 0), (21, .getfield 11, 3, 0, 0), (24, .iload 4, 2, 0, 0), (26, .iaload, 1, 0, 0), (27, .if_icmp .ge 28, 3, 0, 55), (30, .iload 5, 2, 0, 0), (32, .ifCond .ne 23, 3, 0, 55), (35, .aload_n 0, 1, 0, 0), (36, .iload 4, 2, 0, 0), (38, .iconst 4, 1, 4, 0), (39, .imul, 1, 0, 0), (40, .iload 6, 2, 0, 0), (42, .iadd, 1, 0, 0), (43, .iload_n 2, 1, 0, 0), (44, .invokevirtual 57, 3, 0, 0), (47, .istore 5, 2, 0, 0), (49, .iinc 6 1, 3, 1, 0), (52, .goto (-34), 3, 0, 18), (55, .iload_n 3, 1, 0, 0), (56, .iload 5, 2, 0, 0), (58, .ifCond .eq 7, 3, 0, 65), (61, .iconst 1, 1, 1, 0), (62, .goto 4, 3, 0, 66), (65, .iconst 0, 1, 0, 0), (66, .iadd, 1, 0, 0), (67, .istore_n 3, 1, 0, 0), (68, .iinc 4 1, 3, 1, 0), (71, .goto (-66), 3, 0, 5), (74, .iload_n 3, 1, 0, 0), (75, .ireturn, 1, 0, 0)]
theorem tX9_countFree_ok : (tX9_countFree.all (q_okI cX9_countFree)) = true := by decide +kernel

abbrev fdX9_countFree : List (Nat ⊕ (Nat × Nat)) := [.inl 0, .inr (0, 0), .inr (0, 1), .inr (0, 2), .inr (0, 3), .inr (0, 4), .inr (0, 5)]
def spX9_countFree : q_P := fun a w K => ∃ (Y : YT) (t : Nat) (x : Int32), w = treatyW 0 Y ∧ a = [.ref 0, .int (nI t), .int x] ∧ tOk Y ∧ t ≤ 9 ∧ K (.inl (some (.int (nI (frA Y.1 Y.2.1 Y.2.2.2.1 x (9 - t) t 0))))) (treatyW 0 Y)
abbrev csX9_countFree : q_S := (3, 9, 1, 7, 0, 0, fdX9_countFree, spX9_countFree)
theorem coX9_57 (l : Launch) : q_CO l RX9 57 csX9_mayStand := ⟨yX9_mayStand, cX9_mayStand, (some .boolean), 2, ⟨by decide +kernel, by decide +kernel, by decide +kernel⟩, q_G_i 15 (by decide +kernel) rfl, Or.inl ⟨by decide, rfl, rfl, q_G_i 1115 (by decide +kernel) rfl, q_G_i 1117 (by decide +kernel) rfl, q_G_s (n := 9) 46 (by decide +kernel), Or.inl ⟨q_G_i 1118 (by decide +kernel) rfl, ctX9_mayStand l⟩⟩⟩
def EX9_countFree : q_E := (tX9_countFree, [(5, [0, 2, 3, 4]), (18, [0, 2, 3, 4, 5, 6])], 7, flX9, [(57, csX9_mayStand)], [], [], [], [], [], 1, 0, 0, (some .int), [], [], 0, 0)
theorem okX9_countFree (l : Launch) : q_Eok l RX9 cX9_countFree EX9_countFree := ⟨tX9_countFree_ok, flX9_ok, List.forall_mem_cons.mpr ⟨(coX9_57 l), q_nil⟩, q_nil, q_nil, q_nil, q_nil, q_nil, (fun h => absurd h (by decide))⟩
set_option maxRecDepth 100000 in
set_option maxHeartbeats 4000000 in
theorem ctX9_countFree (l : Launch) : q_CT l yX9_countFree (.code yX9_countFree cX9_countFree 7 (some .int)) 1 0 0 spX9_countFree := by
  refine q_ct_of EX9_countFree (by decide +kernel) (okX9_countFree l) rfl rfl rfl rfl rfl q_nil (fun ci h => by cases h) rfl ?_
  intro a w K h
  obtain ⟨Y, t0, x, rfl, rfl, ho, ht0, hK⟩ := h
  refine ⟨Nat.le_of_ble_eq_true rfl, fun C hC => ?_⟩
  have outer : ∀ k t z, t + k = 9 → frA Y.1 Y.2.1 Y.2.2.2.1 x (9 - t0) t0 0 = frA Y.1 Y.2.1 Y.2.2.2.1 x k t z → C 5 [(0, .ref 0), (2, .int x), (3, .int (nI z)), (4, .int (nI t))] [] (treatyW 0 Y) 0 0 := by
    intro k
    induction k with
    | zero =>
      intro t z ht he
      have ht : t = 9 := by omega
      subst ht
      refine hC _ _ _ _ _ _ ?_
      refine And.intro (fun c1 => ?_) (fun c1 => absurd (Int32.le_refl _) c1)
      rw [he, frA] at hK; exact hK
    | succ k ih =>
      intro t z ht he
      have hv : vp_in (nI t) 9 := vp_in_nI (by omega) (by omega)
      have hc : (nI t).toNatClampNeg = t := nI_clamp (by omega)
      obtain ⟨h3, h4⟩ := ho t (by omega)
      rw [frA] at he
      refine hC _ _ _ _ _ _ ?_
      refine And.intro (fun c1 => absurd c1 (nI_ge (b := 9) (by omega) (by omega))) (fun c1 => ?_)
      have done_ : ∀ b, anyF (fun k => mayF Y.2.1 Y.2.2.2.1 k x) (t * 4) (tcF Y.1 t) = b → C 5 [(0, .ref 0), (2, .int x), (3, .int (nI z + bI b)), (4, .int (nI t + 1))] [] (treatyW 0 Y) 0 0 := by
        intro b hb
        rw [hb] at he
        cases b with
        | true =>
          have h9 := ih (t + 1) (z + 1) (by omega) he
          rw [← nI_1, ← nI_1] at h9
          exact h9
        | false =>
          have h9 := ih (t + 1) z (by omega) he
          rw [← nI_1] at h9
          show C 5 [(0, .ref 0), (2, .int x), (3, .int (nI z + 0)), (4, .int (nI t + 1))] [] (treatyW 0 Y) 0 0
          rw [Int32.add_zero]
          exact h9
      have inner : ∀ k2 i b, i + k2 = tcF Y.1 t → anyF (fun k => mayF Y.2.1 Y.2.2.2.1 k x) (t * 4) (tcF Y.1 t) = (b || anyF (fun k => mayF Y.2.1 Y.2.2.2.1 k x) (t * 4 + i) k2) → C 18 [(0, .ref 0), (2, .int x), (3, .int (nI z)), (4, .int (nI t)), (5, .int (bI b)), (6, .int (nI i))] [] (treatyW 0 Y) 0 0 := by
        intro k2
        induction k2 with
        | zero =>
          intro i b hi hb
          rw [anyF, Bool.or_false] at hb
          have h9 := done_ b hb
          refine hC _ _ _ _ _ _ ?_
          refine ⟨hv, And.intro (fun c2 => ?_) (fun c2 => absurd (by show Y.1 (nI t).toNatClampNeg ≤ nI i; rw [hc, h3]; exact nI_le (by omega) (by omega)) c2)⟩
          refine And.intro (fun c3 => ?_) (fun c3 => ?_)
          · rw [bI_0.mp c3] at h9; exact h9
          · rw [bI_n0.mp c3] at h9; exact h9
        | succ k2 ih2 =>
          intro i b hi hb
          rw [anyF] at hb
          have e2 : nI t * 4 + nI i = nI (t * 4 + i) := by rw [nI_mul4, nI_add]
          refine hC _ _ _ _ _ _ ?_
          refine ⟨hv, And.intro (fun c2 => absurd (show Y.1 (nI t).toNatClampNeg ≤ nI i from c2) (by rw [hc, h3]; exact nI_ge (by omega) (by omega))) (fun c2 => And.intro (fun c3 => ?_) (fun c3 => ?_))⟩
          · have c3 := bI_n0.mp c3
            rw [c3, Bool.true_or] at hb
            have h9 := done_ true hb
            refine And.intro (fun c4 => absurd (bI_0.mp c4) (by rw [c3]; decide)) (fun c4 => ?_)
            exact h9
          · have c3 := bI_0.mp c3
            rw [c3, Bool.false_or] at hb
            refine ⟨Y, t * 4 + i, x, rfl, (by rw [← e2]), by omega, ?_⟩
            have h9 := ih2 (i + 1) (mayF Y.2.1 Y.2.2.2.1 (t * 4 + i) x) (by omega) (by rw [hb, Nat.add_assoc])
            rw [← nI_1 i] at h9
            exact h9
      exact inner (tcF Y.1 t) 0 false (by omega) (by rw [Bool.false_or]; rfl)
  exact hC _ _ _ _ _ _ (outer (9 - t0) t0 0 (by omega) rfl)
def keepF (tr ch : Nat → Int32) (t : Nat) : Nat → Nat → Int32
  | 0 => ch
  | i + 1 => upd (keepF tr ch t i) i (if i < t then tr i else -2)
def tX9_keepTried : List q_I := [(0, .iconst 0, 1, 0, 0), (1, .istore_n 2, 1, 0, 0), (2, .iload_n 2, 1, 0, 0), (3, .bipush 9, 2, 9, 0), (5, .if_icmp .ge 31, 3, 0, 36), (8, .aload_n 0, 1, 0, 0), (9, .getfield 27, 3, 0, 0), (12, .iload_n 2, 1, 0, 0), (13, .iload_n 2, 1, 0, 0), (14, .iload_n 1, 1, 0, 0), (15, .if_icmp .ge 12, 3, 0, 27), (18, .aload_n 0, 1, 0, 0), (19, .getfield 24, 3, 0, 0), (22, .iload_n 2, 1, 0, 0), (23, .iaload, 1, 0, 0), (24, .goto 5, 3, 0, 29), (27, .bipush (-2), 2, (-2), 0), (29, .iastore, 1, 0, 0), (30, .iinc 2 1, 3, 1, 0), (33, .goto (-31), 3, 0, 2), (36, .return_, 1, 0, 0)]
theorem tX9_keepTried_ok : (tX9_keepTried.all (q_okI cX9_keepTried)) = true := by decide +kernel

abbrev fdX9_keepTried : List (Nat ⊕ (Nat × Nat)) := [.inl 0, .inr (0, 0), .inr (0, 1), .inr (0, 2), .inr (0, 3), .inr (0, 4), .inr (0, 5)]
def spX9_keepTried : q_P := fun a w K => ∃ (Y : YT) (t : Nat), w = treatyW 0 Y ∧ a = [.ref 0, .int (nI t)] ∧ t ≤ 9 ∧ K (.inl none) (treatyW 0 (Y.1, Y.2.1, Y.2.2.1, Y.2.2.2.1, Y.2.2.2.2.1, keepF Y.2.2.2.2.1 Y.2.2.2.2.2.1 t 9, Y.2.2.2.2.2.2))
abbrev csX9_keepTried : q_S := (2, 9, 0, 3, 0, 0, fdX9_keepTried, spX9_keepTried)
def EX9_keepTried : q_E := (tX9_keepTried, [(2, [0, 1, 2])], 3, flX9, [], [], [], [], [], [], 0, 0, 0, none, [], [], 0, 0)
theorem okX9_keepTried (l : Launch) : q_Eok l RX9 cX9_keepTried EX9_keepTried := ⟨tX9_keepTried_ok, flX9_ok, q_nil, q_nil, q_nil, q_nil, q_nil, q_nil, (fun h => absurd h (by decide))⟩
set_option maxRecDepth 100000 in
set_option maxHeartbeats 4000000 in
theorem ctX9_keepTried (l : Launch) : q_CT l yX9_keepTried (.code yX9_keepTried cX9_keepTried 3 none) 0 0 0 spX9_keepTried := by
  refine q_ct_of EX9_keepTried (by decide +kernel) (okX9_keepTried l) rfl rfl rfl rfl rfl q_nil (fun ci h => by cases h) rfl ?_
  intro a w K h
  obtain ⟨Y, t, rfl, rfl, ht, hK⟩ := h
  refine ⟨Nat.le_of_ble_eq_true rfl, fun C hC => ?_⟩
  have loop : ∀ k i, i + k = 9 → C 2 [(0, .ref 0), (1, .int (nI t)), (2, .int (nI i))] [] (treatyW 0 (Y.1, Y.2.1, Y.2.2.1, Y.2.2.2.1, Y.2.2.2.2.1, keepF Y.2.2.2.2.1 Y.2.2.2.2.2.1 t i, Y.2.2.2.2.2.2)) 0 0 := by
    intro k
    induction k with
    | zero =>
      intro i hi
      have hi : i = 9 := by omega
      subst hi
      refine hC _ _ _ _ _ _ ?_
      exact And.intro (fun c1 => hK) (fun c1 => absurd (Int32.le_refl _) c1)
    | succ k ih =>
      intro i hi
      have hv : vp_in (nI i) 9 := vp_in_nI (by omega) (by omega)
      have hc : (nI i).toNatClampNeg = i := nI_clamp (by omega)
      have h9 := ih (i + 1) (by omega)
      rw [← nI_1, keepF] at h9
      refine hC _ _ _ _ _ _ ?_
      refine And.intro (fun c1 => absurd c1 (nI_ge (b := 9) (by omega) (by omega))) (fun c1 => And.intro (fun c2 => ⟨hv, ?_⟩) (fun c2 => ⟨hv, hv, ?_⟩))
      · rw [if_neg (fun z => absurd c2 (nI_ge z (by omega)))] at h9
        have e1 : ∀ (f : Nat → Int32) (z : Int32), upd f i z = upd f (nI i).toNatClampNeg z := fun f z => by rw [hc]
        rw [e1] at h9
        exact h9
      · rw [if_pos (lt_of_nI (by omega) (by omega) c2)] at h9
        have e1 : ∀ (f : Nat → Int32) (z : Int32), upd f i z = upd f (nI i).toNatClampNeg z := fun f z => by rw [hc]
        have e2 : Y.2.2.2.2.1 i = Y.2.2.2.2.1 (nI i).toNatClampNeg := by rw [hc]
        rw [e1, e2] at h9
        exact h9
  exact hC _ _ _ _ _ _ (loop 9 0 (by omega))
/-- tried, chosen, most -/
abbrev chS : Type := (Nat → Int32) × (Nat → Int32) × Int32
def yCh (Y : YT) (s : chS) : YT := (Y.1, Y.2.1, Y.2.2.1, Y.2.2.2.1, s.1, s.2.1, s.2.2, Y.2.2.2.2.2.2.2)
def chK (t th : Nat) (s : chS) : chS := if s.2.2 < nI th then (s.1, keepF s.1 s.2.1 t 9, nI th) else s
def chO (rec : Nat → Int32 → chS → chS) (wd br : Nat → Int32) (t th : Nat) (bars : Int32) (s : chS) (i : Nat) : chS := if mayF wd br (t * 4 + i) bars then rec (th + 1) (bars ||| br (t * 4 + i)) (upd s.1 t (nI i), s.2.1, s.2.2) else s
def chE (rec : Nat → Int32 → chS → chS) (t th : Nat) (bars : Int32) (s : chS) : chS := rec th bars (upd s.1 t (-2), s.2.1, s.2.2)
def chB (rec : Nat → Int32 → chS → chS) (cl wd br : Nat → Int32) (t th : Nat) (bars : Int32) (s : chS) : chS :=
  if nI (th + frA cl wd br bars (9 - t) t 0) ≤ (chK t th s).2.2 then chK t th s
  else chE rec t th bars (foldF (chO rec wd br t th bars) 0 (tcF cl t) (chK t th s))
def chF (cl wd br : Nat → Int32) : Nat → Nat → Nat → Int32 → chS → chS
  | 0, t, th, _, s => chK t th s
  | n + 1, t, th, bars, s => chB (chF cl wd br n (t + 1)) cl wd br t th bars s
def tX9_choose : List q_I := [(0, .iload_n 2, 1, 0, 0), (1, .aload_n 0, 1, 0, 0), (2, .getfield 42, 3, 0, 0), (5, .if_icmp .le 13, 3, 0, 18), (8, .aload_n 0, 1, 0, 0), (9, .iload_n 1, 1, 0, 0), (10, .invokevirtual 49, 3, 0, 0), (13, .aload_n 0, 1, 0, 0), (14, .iload_n 2, 1, 0, 0), (15, .putfield 42, 3, 0, 0), (18, .iload_n 1, 1, 0, 0), (19, .bipush 9, 2, 9, 0), (21, .if_icmp .ge 18, 3, 0, 39), (24, .iload_n 2, 1, 0, 0), (25, .aload_n 0, 1, 0, 0), (26, .iload_n 1, 1, 0, 0), (27, .iload_n 3, 1, 0, 0), (28, .invokevirtual 53, 3, 0, 0), (31, .iadd, 1, 0, 0), (32, .aload_n 0, 1, 0, 0), (33, .getfield 42, 3, 0, 0), (36, .if_icmp .gt 4, 3, 0, 40), (39, .return_, 1, 0, 0), (40, .iconst 0, 1, 0, 0), (41, .istore 4, 2, 0, 0), (43, .iload 4, 2, 0, 0), (45, .aload_n 0, 1, 0, 0), (46, .getfield 11, 3, 0, 0), (49, .iload_n 1, 1, 0, 0), (50, .iaload, 1, 0, 0), (51, .if_icmp .ge 54, 3, 0, 105), (54, .iload_n 1, 1, 0, 0), (55, .iconst 4, 1, 4, 0), (56, .imul, 1, 0, 0), (57, .iload 4, 2, 0, 0), (59, .iadd, 1, 0, 0), (60, .istore 5, 2, 0, 0), (62, .aload_n 0, 1, 0, 0), (63, .iload 5, 2, 0, 0), (65, .iload_n 3, 1, 0, 0), (66, .invokevirtual 57, 3, 0, 0), (69, .ifCond .eq 30, 3, 0, 99), (72, .aload_n 0, 1, 0, 0), (73, .getfield 24, 3, 0, 0), (76, .iload_n 1, 1, 0, 0), (77, .iload 4, 2, 0, 0), (79, .iastore, 1, 0, 0), (80, .aload_n 0, 1, 0, 0), (81, .iload_n 1, 1, 0, 0), (82, .iconst 1, 1, 1, 0), (83, .iadd, 1, 0, 0), (84, .iload_n 2, 1, 0, 0), (85, .iconst 1, 1, 1, 0), (86, .iadd, 1, 0, 0), (87, .iload_n 3, 1, 0, 0), (88, .aload_n 0, 1, 0, 0), (89, .getfield 21, 3, 0, 0), (92, .iload 5, 2, 0, 0), (94, .iaload, 1, 0, 0), (95, .ior, 1, 0, 0), (96, .invokevirtual 45, 3, 0, 0), (99, .iinc 4 1, 3, 1, 0), (102, .goto (-59), 3, 0, 43), (105, .aload_n 0, 1, 0, 0), (106, .getfield 24, 3, 0, 0), (109, .iload_n 1, 1, 0, 0), (110, .bipush (-2), 2, (-2), 0), (112, .iastore, 1, 0, 0), (113, .aload_n 0, 1, 0, 0), (114, .iload_n 1, 1, 0, 0), (115, .iconst 1, 1, 1, 0), (116, .iadd, 1, 0, 0), (117, .iload_n 2, 1, 0, 0), (118, .iload_n 3, 1, 0, 0), (119, .invokevirtual 45, 3, 0, 0), (122, .return_, 1, 0, 0)]
theorem tX9_choose_ok : (tX9_choose.all (q_okI cX9_choose)) = true := by decide +kernel

abbrev fdX9_choose : List (Nat ⊕ (Nat × Nat)) := [.inl 0, .inr (0, 0), .inr (0, 1), .inr (0, 2), .inr (0, 3), .inr (0, 4), .inr (0, 5)]
def spX9_choose (n t : Nat) : q_P := fun a w K => ∃ (Y : YT) (th : Nat) (x : Int32), w = treatyW 0 Y ∧ a = [.ref 0, .int (nI t), .int (nI th), .int x] ∧ tOk Y ∧ th ≤ t ∧ K (.inl none) (treatyW 0 (yCh Y (chF Y.1 Y.2.1 Y.2.2.2.1 n t th x (Y.2.2.2.2.1, Y.2.2.2.2.2.1, Y.2.2.2.2.2.2.1))))
theorem coX9_49 (l : Launch) : q_CO l RX9 49 csX9_keepTried := ⟨yX9_keepTried, cX9_keepTried, none, 1, ⟨by decide +kernel, by decide +kernel, by decide +kernel⟩, q_G_i 15 (by decide +kernel) rfl, Or.inl ⟨by decide, rfl, rfl, q_G_i 1107 (by decide +kernel) rfl, q_G_i 1109 (by decide +kernel) rfl, q_G_s (n := 9) 44 (by decide +kernel), Or.inl ⟨q_G_i 1110 (by decide +kernel) rfl, ctX9_keepTried l⟩⟩⟩
theorem coX9_53 (l : Launch) : q_CO l RX9 53 csX9_countFree := ⟨yX9_countFree, cX9_countFree, (some .int), 2, ⟨by decide +kernel, by decide +kernel, by decide +kernel⟩, q_G_i 15 (by decide +kernel) rfl, Or.inl ⟨by decide, rfl, rfl, q_G_i 1111 (by decide +kernel) rfl, q_G_i 1113 (by decide +kernel) rfl, q_G_s (n := 9) 45 (by decide +kernel), Or.inl ⟨q_G_i 1114 (by decide +kernel) rfl, ctX9_countFree l⟩⟩⟩
abbrev csX9_choose_0 : q_S := (4, 9, 2, 6, 0, 0, fdX9_choose, spX9_choose 0 9)
def EX9_choose_0 : q_E := (tX9_choose, [(18, [0, 1, 2, 3]), (43, [0, 1, 2, 3, 4])], 6, flX9, [(49, csX9_keepTried), (53, csX9_countFree), (57, csX9_mayStand)], [], [], [], [], [], 2, 0, 0, none, [], [], 0, 0)
theorem okX9_choose_0 (l : Launch) : q_Eok l RX9 cX9_choose EX9_choose_0 := ⟨tX9_choose_ok, flX9_ok, List.forall_mem_cons.mpr ⟨(coX9_49 l), List.forall_mem_cons.mpr ⟨(coX9_53 l), List.forall_mem_cons.mpr ⟨(coX9_57 l), q_nil⟩⟩⟩, q_nil, q_nil, q_nil, q_nil, q_nil, (fun h => absurd h (by decide))⟩
set_option maxRecDepth 100000 in
set_option maxHeartbeats 4000000 in
theorem ctX9_choose_0 (l : Launch) : q_CT l yX9_choose (.code yX9_choose cX9_choose 6 none) 2 0 0 (spX9_choose 0 9) := by
  refine q_ct_of EX9_choose_0 (by decide +kernel) (okX9_choose_0 l) rfl rfl rfl rfl rfl q_nil (fun ci h => by cases h) rfl ?_
  intro a w K h
  obtain ⟨Y, th, x, rfl, rfl, ho, hth, hK⟩ := h
  refine ⟨Nat.le_of_ble_eq_true rfl, fun C hC => hC _ _ _ _ _ _ ?_⟩
  have hK : K (.inl none) (treatyW 0 (yCh Y (chK 9 th (Y.2.2.2.2.1, Y.2.2.2.2.2.1, Y.2.2.2.2.2.2.1)))) := hK
  refine And.intro (fun c => ?_) (fun c => ?_)
  · rw [chK, if_neg (Int32.not_lt.mpr c)] at hK
    exact hC _ _ _ _ _ _ (And.intro (fun _ => hK) (fun c2 => absurd (Int32.le_refl _) c2))
  · rw [chK, if_pos (Int32.not_le.mp c)] at hK
    refine ⟨Y, 9, rfl, rfl, by omega, ?_⟩
    exact hC _ _ _ _ _ _ (And.intro (fun _ => hK) (fun c2 => absurd (Int32.le_refl _) c2))
abbrev csX9_choose_1 : q_S := (4, 9, 3, 6, 0, 0, fdX9_choose, spX9_choose 1 8)
theorem coX9_45_0 (l : Launch) : q_CO l RX9 45 csX9_choose_0 := ⟨yX9_choose, cX9_choose, none, 3, ⟨by decide +kernel, by decide +kernel, by decide +kernel⟩, q_G_i 15 (by decide +kernel) rfl, Or.inl ⟨by decide, rfl, rfl, q_G_i 1103 (by decide +kernel) rfl, q_G_i 1105 (by decide +kernel) rfl, q_G_s (n := 9) 43 (by decide +kernel), Or.inl ⟨q_G_i 1106 (by decide +kernel) rfl, ctX9_choose_0 l⟩⟩⟩
def EX9_choose_1 : q_E := (tX9_choose, [(18, [0, 1, 2, 3]), (43, [0, 1, 2, 3, 4])], 6, flX9, [(49, csX9_keepTried), (53, csX9_countFree), (57, csX9_mayStand), (45, csX9_choose_0)], [], [], [], [], [], 3, 0, 0, none, [], [], 0, 0)
theorem okX9_choose_1 (l : Launch) : q_Eok l RX9 cX9_choose EX9_choose_1 := ⟨tX9_choose_ok, flX9_ok, List.forall_mem_cons.mpr ⟨(coX9_49 l), List.forall_mem_cons.mpr ⟨(coX9_53 l), List.forall_mem_cons.mpr ⟨(coX9_57 l), List.forall_mem_cons.mpr ⟨(coX9_45_0 l), q_nil⟩⟩⟩⟩, q_nil, q_nil, q_nil, q_nil, q_nil, (fun h => absurd h (by decide))⟩
set_option maxRecDepth 100000 in
set_option maxHeartbeats 4000000 in
theorem ctX9_choose_1 (l : Launch) : q_CT l yX9_choose (.code yX9_choose cX9_choose 6 none) 3 0 0 (spX9_choose 1 8) := by
  refine q_ct_of EX9_choose_1 (by decide +kernel) (okX9_choose_1 l) rfl rfl rfl rfl rfl q_nil (fun ci h => by cases h) rfl ?_
  intro a w K h
  obtain ⟨Y, th, x, rfl, rfl, ho, hth, hK⟩ := h
  refine ⟨Nat.le_of_ble_eq_true rfl, fun C hC => hC _ _ _ _ _ _ ?_⟩
  have hK : K (.inl none) (treatyW 0 (yCh Y (chB (chF Y.1 Y.2.1 Y.2.2.2.1 0 9) Y.1 Y.2.1 Y.2.2.2.1 8 th x (Y.2.2.2.2.1, Y.2.2.2.2.2.1, Y.2.2.2.2.2.2.1)))) := hK
  have hc : (nI 8).toNatClampNeg = 8 := nI_clamp (by omega)
  have hv : vp_in (nI 8) 9 := vp_in_nI (by omega) (by omega)
  have hfr := frA_le Y.1 Y.2.1 Y.2.2.2.1 x (9 - 8) 8 0
  obtain ⟨h3, h4⟩ := ho 8 (by omega)
  have eT : nI 8 + 1 = nI 9 := nI_1 _
  have main : ∀ s, K (.inl none) (treatyW 0 (yCh Y (if nI (th + frA Y.1 Y.2.1 Y.2.2.2.1 x (9 - 8) 8 0) ≤ s.2.2 then s else chE (chF Y.1 Y.2.1 Y.2.2.2.1 0 9) 8 th x (foldF (chO (chF Y.1 Y.2.1 Y.2.2.2.1 0 9) Y.2.1 Y.2.2.2.1 8 th x) 0 (tcF Y.1 8) s)))) → C 18 [(0, .ref 0), (1, .int (nI 8)), (2, .int (nI th)), (3, .int x)] [] (treatyW 0 (yCh Y s)) 0 0 := by
    intro s hK
    refine hC _ _ _ _ _ _ ?_
    refine And.intro (fun c => absurd c (by decide)) (fun c => ?_)
    refine ⟨yCh Y s, 8, x, rfl, rfl, ho, by omega, And.intro (fun c2 => ?_) (fun c2 => ?_)⟩
    · have c2 : s.2.2 < nI th + nI (frA Y.1 Y.2.1 Y.2.2.2.1 x (9 - 8) 8 0) := c2
      rw [nI_add] at c2
      rw [if_neg (Int32.not_le.mpr c2)] at hK
      have loop : ∀ k i s, i + k = tcF Y.1 8 → K (.inl none) (treatyW 0 (yCh Y (chE (chF Y.1 Y.2.1 Y.2.2.2.1 0 9) 8 th x (foldF (chO (chF Y.1 Y.2.1 Y.2.2.2.1 0 9) Y.2.1 Y.2.2.2.1 8 th x) i k s)))) → C 43 [(0, .ref 0), (1, .int (nI 8)), (2, .int (nI th)), (3, .int x), (4, .int (nI i))] [] (treatyW 0 (yCh Y s)) 0 0 := by
        intro k
        induction k with
        | zero =>
          intro i s hi hK
          refine hC _ _ _ _ _ _ ?_
          refine ⟨hv, And.intro (fun c3 => ?_) (fun c3 => absurd (by show Y.1 (nI 8).toNatClampNeg ≤ nI i; rw [hc, h3]; exact nI_le (by omega) (by omega)) c3)⟩
          exact ⟨hv, yCh Y (upd s.1 8 (-2), s.2.1, s.2.2), th, x, rfl, (by rw [← eT]), ho, by omega, hK⟩
        | succ k ih =>
          intro i s hi hK
          rw [foldF] at hK
          have e2 : nI 8 * 4 + nI i = nI (8 * 4 + i) := by rw [nI_mul4, nI_add]
          have hc2 : (nI 8 * 4 + nI i).toNatClampNeg = 8 * 4 + i := by rw [e2]; exact nI_clamp (by omega)
          have hv2 : vp_in (nI 8 * 4 + nI i) 36 := by rw [e2]; exact vp_in_nI (by omega) (by omega)
          refine hC _ _ _ _ _ _ ?_
          refine ⟨hv, And.intro (fun c3 => absurd (show Y.1 (nI 8).toNatClampNeg ≤ nI i from c3) (by rw [hc, h3]; exact nI_ge (by omega) (by omega))) (fun c3 => ?_)⟩
          refine ⟨yCh Y s, 8 * 4 + i, x, rfl, (by rw [← e2]), by omega, And.intro (fun c4 => ?_) (fun c4 => ?_)⟩
          · have c4 : mayF Y.2.1 Y.2.2.2.1 (8 * 4 + i) x = false := bI_0.mp c4
            rw [chO, c4] at hK
            have h9 := ih (i + 1) s (by omega) hK
            rw [← nI_1 i] at h9
            exact h9
          · have c4 : mayF Y.2.1 Y.2.2.2.1 (8 * 4 + i) x = true := bI_n0.mp c4
            rw [chO, c4, if_pos rfl, ← hc2] at hK
            refine ⟨hv, hv2, yCh Y (upd s.1 8 (nI i), s.2.1, s.2.2), th + 1, _, rfl, (by rw [← eT, ← nI_1 th]), ho, by omega, ?_⟩
            have h9 := ih (i + 1) _ (by omega) hK
            rw [← nI_1 i] at h9
            exact h9
      exact loop (tcF Y.1 8) 0 s (by omega) hK
    · have c2 : ¬ s.2.2 < nI th + nI (frA Y.1 Y.2.1 Y.2.2.2.1 x (9 - 8) 8 0) := c2
      rw [nI_add] at c2
      rw [if_pos (Int32.not_lt.mp c2)] at hK
      exact hK
  refine And.intro (fun c => ?_) (fun c => ?_)
  · have e : chK 8 th (Y.2.2.2.2.1, Y.2.2.2.2.2.1, Y.2.2.2.2.2.2.1) = (Y.2.2.2.2.1, Y.2.2.2.2.2.1, Y.2.2.2.2.2.2.1) := if_neg (Int32.not_lt.mpr c)
    rw [chB, e] at hK
    exact main _ hK
  · have e : chK 8 th (Y.2.2.2.2.1, Y.2.2.2.2.2.1, Y.2.2.2.2.2.2.1) = (Y.2.2.2.2.1, keepF Y.2.2.2.2.1 Y.2.2.2.2.2.1 8 9, nI th) := if_pos (Int32.not_le.mp c)
    rw [chB, e] at hK
    refine ⟨Y, 8, rfl, rfl, by omega, ?_⟩
    exact main _ hK
abbrev csX9_choose_2 : q_S := (4, 9, 4, 6, 0, 0, fdX9_choose, spX9_choose 2 7)
theorem coX9_45_1 (l : Launch) : q_CO l RX9 45 csX9_choose_1 := ⟨yX9_choose, cX9_choose, none, 3, ⟨by decide +kernel, by decide +kernel, by decide +kernel⟩, q_G_i 15 (by decide +kernel) rfl, Or.inl ⟨by decide, rfl, rfl, q_G_i 1103 (by decide +kernel) rfl, q_G_i 1105 (by decide +kernel) rfl, q_G_s (n := 9) 43 (by decide +kernel), Or.inl ⟨q_G_i 1106 (by decide +kernel) rfl, ctX9_choose_1 l⟩⟩⟩
def EX9_choose_2 : q_E := (tX9_choose, [(18, [0, 1, 2, 3]), (43, [0, 1, 2, 3, 4])], 6, flX9, [(49, csX9_keepTried), (53, csX9_countFree), (57, csX9_mayStand), (45, csX9_choose_1)], [], [], [], [], [], 4, 0, 0, none, [], [], 0, 0)
theorem okX9_choose_2 (l : Launch) : q_Eok l RX9 cX9_choose EX9_choose_2 := ⟨tX9_choose_ok, flX9_ok, List.forall_mem_cons.mpr ⟨(coX9_49 l), List.forall_mem_cons.mpr ⟨(coX9_53 l), List.forall_mem_cons.mpr ⟨(coX9_57 l), List.forall_mem_cons.mpr ⟨(coX9_45_1 l), q_nil⟩⟩⟩⟩, q_nil, q_nil, q_nil, q_nil, q_nil, (fun h => absurd h (by decide))⟩
set_option maxRecDepth 100000 in
set_option maxHeartbeats 4000000 in
theorem ctX9_choose_2 (l : Launch) : q_CT l yX9_choose (.code yX9_choose cX9_choose 6 none) 4 0 0 (spX9_choose 2 7) := by
  refine q_ct_of EX9_choose_2 (by decide +kernel) (okX9_choose_2 l) rfl rfl rfl rfl rfl q_nil (fun ci h => by cases h) rfl ?_
  intro a w K h
  obtain ⟨Y, th, x, rfl, rfl, ho, hth, hK⟩ := h
  refine ⟨Nat.le_of_ble_eq_true rfl, fun C hC => hC _ _ _ _ _ _ ?_⟩
  have hK : K (.inl none) (treatyW 0 (yCh Y (chB (chF Y.1 Y.2.1 Y.2.2.2.1 1 8) Y.1 Y.2.1 Y.2.2.2.1 7 th x (Y.2.2.2.2.1, Y.2.2.2.2.2.1, Y.2.2.2.2.2.2.1)))) := hK
  have hc : (nI 7).toNatClampNeg = 7 := nI_clamp (by omega)
  have hv : vp_in (nI 7) 9 := vp_in_nI (by omega) (by omega)
  have hfr := frA_le Y.1 Y.2.1 Y.2.2.2.1 x (9 - 7) 7 0
  obtain ⟨h3, h4⟩ := ho 7 (by omega)
  have eT : nI 7 + 1 = nI 8 := nI_1 _
  have main : ∀ s, K (.inl none) (treatyW 0 (yCh Y (if nI (th + frA Y.1 Y.2.1 Y.2.2.2.1 x (9 - 7) 7 0) ≤ s.2.2 then s else chE (chF Y.1 Y.2.1 Y.2.2.2.1 1 8) 7 th x (foldF (chO (chF Y.1 Y.2.1 Y.2.2.2.1 1 8) Y.2.1 Y.2.2.2.1 7 th x) 0 (tcF Y.1 7) s)))) → C 18 [(0, .ref 0), (1, .int (nI 7)), (2, .int (nI th)), (3, .int x)] [] (treatyW 0 (yCh Y s)) 0 0 := by
    intro s hK
    refine hC _ _ _ _ _ _ ?_
    refine And.intro (fun c => absurd c (by decide)) (fun c => ?_)
    refine ⟨yCh Y s, 7, x, rfl, rfl, ho, by omega, And.intro (fun c2 => ?_) (fun c2 => ?_)⟩
    · have c2 : s.2.2 < nI th + nI (frA Y.1 Y.2.1 Y.2.2.2.1 x (9 - 7) 7 0) := c2
      rw [nI_add] at c2
      rw [if_neg (Int32.not_le.mpr c2)] at hK
      have loop : ∀ k i s, i + k = tcF Y.1 7 → K (.inl none) (treatyW 0 (yCh Y (chE (chF Y.1 Y.2.1 Y.2.2.2.1 1 8) 7 th x (foldF (chO (chF Y.1 Y.2.1 Y.2.2.2.1 1 8) Y.2.1 Y.2.2.2.1 7 th x) i k s)))) → C 43 [(0, .ref 0), (1, .int (nI 7)), (2, .int (nI th)), (3, .int x), (4, .int (nI i))] [] (treatyW 0 (yCh Y s)) 0 0 := by
        intro k
        induction k with
        | zero =>
          intro i s hi hK
          refine hC _ _ _ _ _ _ ?_
          refine ⟨hv, And.intro (fun c3 => ?_) (fun c3 => absurd (by show Y.1 (nI 7).toNatClampNeg ≤ nI i; rw [hc, h3]; exact nI_le (by omega) (by omega)) c3)⟩
          exact ⟨hv, yCh Y (upd s.1 7 (-2), s.2.1, s.2.2), th, x, rfl, (by rw [← eT]), ho, by omega, hK⟩
        | succ k ih =>
          intro i s hi hK
          rw [foldF] at hK
          have e2 : nI 7 * 4 + nI i = nI (7 * 4 + i) := by rw [nI_mul4, nI_add]
          have hc2 : (nI 7 * 4 + nI i).toNatClampNeg = 7 * 4 + i := by rw [e2]; exact nI_clamp (by omega)
          have hv2 : vp_in (nI 7 * 4 + nI i) 36 := by rw [e2]; exact vp_in_nI (by omega) (by omega)
          refine hC _ _ _ _ _ _ ?_
          refine ⟨hv, And.intro (fun c3 => absurd (show Y.1 (nI 7).toNatClampNeg ≤ nI i from c3) (by rw [hc, h3]; exact nI_ge (by omega) (by omega))) (fun c3 => ?_)⟩
          refine ⟨yCh Y s, 7 * 4 + i, x, rfl, (by rw [← e2]), by omega, And.intro (fun c4 => ?_) (fun c4 => ?_)⟩
          · have c4 : mayF Y.2.1 Y.2.2.2.1 (7 * 4 + i) x = false := bI_0.mp c4
            rw [chO, c4] at hK
            have h9 := ih (i + 1) s (by omega) hK
            rw [← nI_1 i] at h9
            exact h9
          · have c4 : mayF Y.2.1 Y.2.2.2.1 (7 * 4 + i) x = true := bI_n0.mp c4
            rw [chO, c4, if_pos rfl, ← hc2] at hK
            refine ⟨hv, hv2, yCh Y (upd s.1 7 (nI i), s.2.1, s.2.2), th + 1, _, rfl, (by rw [← eT, ← nI_1 th]), ho, by omega, ?_⟩
            have h9 := ih (i + 1) _ (by omega) hK
            rw [← nI_1 i] at h9
            exact h9
      exact loop (tcF Y.1 7) 0 s (by omega) hK
    · have c2 : ¬ s.2.2 < nI th + nI (frA Y.1 Y.2.1 Y.2.2.2.1 x (9 - 7) 7 0) := c2
      rw [nI_add] at c2
      rw [if_pos (Int32.not_lt.mp c2)] at hK
      exact hK
  refine And.intro (fun c => ?_) (fun c => ?_)
  · have e : chK 7 th (Y.2.2.2.2.1, Y.2.2.2.2.2.1, Y.2.2.2.2.2.2.1) = (Y.2.2.2.2.1, Y.2.2.2.2.2.1, Y.2.2.2.2.2.2.1) := if_neg (Int32.not_lt.mpr c)
    rw [chB, e] at hK
    exact main _ hK
  · have e : chK 7 th (Y.2.2.2.2.1, Y.2.2.2.2.2.1, Y.2.2.2.2.2.2.1) = (Y.2.2.2.2.1, keepF Y.2.2.2.2.1 Y.2.2.2.2.2.1 7 9, nI th) := if_pos (Int32.not_le.mp c)
    rw [chB, e] at hK
    refine ⟨Y, 7, rfl, rfl, by omega, ?_⟩
    exact main _ hK
abbrev csX9_choose_3 : q_S := (4, 9, 5, 6, 0, 0, fdX9_choose, spX9_choose 3 6)
theorem coX9_45_2 (l : Launch) : q_CO l RX9 45 csX9_choose_2 := ⟨yX9_choose, cX9_choose, none, 3, ⟨by decide +kernel, by decide +kernel, by decide +kernel⟩, q_G_i 15 (by decide +kernel) rfl, Or.inl ⟨by decide, rfl, rfl, q_G_i 1103 (by decide +kernel) rfl, q_G_i 1105 (by decide +kernel) rfl, q_G_s (n := 9) 43 (by decide +kernel), Or.inl ⟨q_G_i 1106 (by decide +kernel) rfl, ctX9_choose_2 l⟩⟩⟩
def EX9_choose_3 : q_E := (tX9_choose, [(18, [0, 1, 2, 3]), (43, [0, 1, 2, 3, 4])], 6, flX9, [(49, csX9_keepTried), (53, csX9_countFree), (57, csX9_mayStand), (45, csX9_choose_2)], [], [], [], [], [], 5, 0, 0, none, [], [], 0, 0)
theorem okX9_choose_3 (l : Launch) : q_Eok l RX9 cX9_choose EX9_choose_3 := ⟨tX9_choose_ok, flX9_ok, List.forall_mem_cons.mpr ⟨(coX9_49 l), List.forall_mem_cons.mpr ⟨(coX9_53 l), List.forall_mem_cons.mpr ⟨(coX9_57 l), List.forall_mem_cons.mpr ⟨(coX9_45_2 l), q_nil⟩⟩⟩⟩, q_nil, q_nil, q_nil, q_nil, q_nil, (fun h => absurd h (by decide))⟩
set_option maxRecDepth 100000 in
set_option maxHeartbeats 4000000 in
theorem ctX9_choose_3 (l : Launch) : q_CT l yX9_choose (.code yX9_choose cX9_choose 6 none) 5 0 0 (spX9_choose 3 6) := by
  refine q_ct_of EX9_choose_3 (by decide +kernel) (okX9_choose_3 l) rfl rfl rfl rfl rfl q_nil (fun ci h => by cases h) rfl ?_
  intro a w K h
  obtain ⟨Y, th, x, rfl, rfl, ho, hth, hK⟩ := h
  refine ⟨Nat.le_of_ble_eq_true rfl, fun C hC => hC _ _ _ _ _ _ ?_⟩
  have hK : K (.inl none) (treatyW 0 (yCh Y (chB (chF Y.1 Y.2.1 Y.2.2.2.1 2 7) Y.1 Y.2.1 Y.2.2.2.1 6 th x (Y.2.2.2.2.1, Y.2.2.2.2.2.1, Y.2.2.2.2.2.2.1)))) := hK
  have hc : (nI 6).toNatClampNeg = 6 := nI_clamp (by omega)
  have hv : vp_in (nI 6) 9 := vp_in_nI (by omega) (by omega)
  have hfr := frA_le Y.1 Y.2.1 Y.2.2.2.1 x (9 - 6) 6 0
  obtain ⟨h3, h4⟩ := ho 6 (by omega)
  have eT : nI 6 + 1 = nI 7 := nI_1 _
  have main : ∀ s, K (.inl none) (treatyW 0 (yCh Y (if nI (th + frA Y.1 Y.2.1 Y.2.2.2.1 x (9 - 6) 6 0) ≤ s.2.2 then s else chE (chF Y.1 Y.2.1 Y.2.2.2.1 2 7) 6 th x (foldF (chO (chF Y.1 Y.2.1 Y.2.2.2.1 2 7) Y.2.1 Y.2.2.2.1 6 th x) 0 (tcF Y.1 6) s)))) → C 18 [(0, .ref 0), (1, .int (nI 6)), (2, .int (nI th)), (3, .int x)] [] (treatyW 0 (yCh Y s)) 0 0 := by
    intro s hK
    refine hC _ _ _ _ _ _ ?_
    refine And.intro (fun c => absurd c (by decide)) (fun c => ?_)
    refine ⟨yCh Y s, 6, x, rfl, rfl, ho, by omega, And.intro (fun c2 => ?_) (fun c2 => ?_)⟩
    · have c2 : s.2.2 < nI th + nI (frA Y.1 Y.2.1 Y.2.2.2.1 x (9 - 6) 6 0) := c2
      rw [nI_add] at c2
      rw [if_neg (Int32.not_le.mpr c2)] at hK
      have loop : ∀ k i s, i + k = tcF Y.1 6 → K (.inl none) (treatyW 0 (yCh Y (chE (chF Y.1 Y.2.1 Y.2.2.2.1 2 7) 6 th x (foldF (chO (chF Y.1 Y.2.1 Y.2.2.2.1 2 7) Y.2.1 Y.2.2.2.1 6 th x) i k s)))) → C 43 [(0, .ref 0), (1, .int (nI 6)), (2, .int (nI th)), (3, .int x), (4, .int (nI i))] [] (treatyW 0 (yCh Y s)) 0 0 := by
        intro k
        induction k with
        | zero =>
          intro i s hi hK
          refine hC _ _ _ _ _ _ ?_
          refine ⟨hv, And.intro (fun c3 => ?_) (fun c3 => absurd (by show Y.1 (nI 6).toNatClampNeg ≤ nI i; rw [hc, h3]; exact nI_le (by omega) (by omega)) c3)⟩
          exact ⟨hv, yCh Y (upd s.1 6 (-2), s.2.1, s.2.2), th, x, rfl, (by rw [← eT]), ho, by omega, hK⟩
        | succ k ih =>
          intro i s hi hK
          rw [foldF] at hK
          have e2 : nI 6 * 4 + nI i = nI (6 * 4 + i) := by rw [nI_mul4, nI_add]
          have hc2 : (nI 6 * 4 + nI i).toNatClampNeg = 6 * 4 + i := by rw [e2]; exact nI_clamp (by omega)
          have hv2 : vp_in (nI 6 * 4 + nI i) 36 := by rw [e2]; exact vp_in_nI (by omega) (by omega)
          refine hC _ _ _ _ _ _ ?_
          refine ⟨hv, And.intro (fun c3 => absurd (show Y.1 (nI 6).toNatClampNeg ≤ nI i from c3) (by rw [hc, h3]; exact nI_ge (by omega) (by omega))) (fun c3 => ?_)⟩
          refine ⟨yCh Y s, 6 * 4 + i, x, rfl, (by rw [← e2]), by omega, And.intro (fun c4 => ?_) (fun c4 => ?_)⟩
          · have c4 : mayF Y.2.1 Y.2.2.2.1 (6 * 4 + i) x = false := bI_0.mp c4
            rw [chO, c4] at hK
            have h9 := ih (i + 1) s (by omega) hK
            rw [← nI_1 i] at h9
            exact h9
          · have c4 : mayF Y.2.1 Y.2.2.2.1 (6 * 4 + i) x = true := bI_n0.mp c4
            rw [chO, c4, if_pos rfl, ← hc2] at hK
            refine ⟨hv, hv2, yCh Y (upd s.1 6 (nI i), s.2.1, s.2.2), th + 1, _, rfl, (by rw [← eT, ← nI_1 th]), ho, by omega, ?_⟩
            have h9 := ih (i + 1) _ (by omega) hK
            rw [← nI_1 i] at h9
            exact h9
      exact loop (tcF Y.1 6) 0 s (by omega) hK
    · have c2 : ¬ s.2.2 < nI th + nI (frA Y.1 Y.2.1 Y.2.2.2.1 x (9 - 6) 6 0) := c2
      rw [nI_add] at c2
      rw [if_pos (Int32.not_lt.mp c2)] at hK
      exact hK
  refine And.intro (fun c => ?_) (fun c => ?_)
  · have e : chK 6 th (Y.2.2.2.2.1, Y.2.2.2.2.2.1, Y.2.2.2.2.2.2.1) = (Y.2.2.2.2.1, Y.2.2.2.2.2.1, Y.2.2.2.2.2.2.1) := if_neg (Int32.not_lt.mpr c)
    rw [chB, e] at hK
    exact main _ hK
  · have e : chK 6 th (Y.2.2.2.2.1, Y.2.2.2.2.2.1, Y.2.2.2.2.2.2.1) = (Y.2.2.2.2.1, keepF Y.2.2.2.2.1 Y.2.2.2.2.2.1 6 9, nI th) := if_pos (Int32.not_le.mp c)
    rw [chB, e] at hK
    refine ⟨Y, 6, rfl, rfl, by omega, ?_⟩
    exact main _ hK
abbrev csX9_choose_4 : q_S := (4, 9, 6, 6, 0, 0, fdX9_choose, spX9_choose 4 5)
theorem coX9_45_3 (l : Launch) : q_CO l RX9 45 csX9_choose_3 := ⟨yX9_choose, cX9_choose, none, 3, ⟨by decide +kernel, by decide +kernel, by decide +kernel⟩, q_G_i 15 (by decide +kernel) rfl, Or.inl ⟨by decide, rfl, rfl, q_G_i 1103 (by decide +kernel) rfl, q_G_i 1105 (by decide +kernel) rfl, q_G_s (n := 9) 43 (by decide +kernel), Or.inl ⟨q_G_i 1106 (by decide +kernel) rfl, ctX9_choose_3 l⟩⟩⟩
def EX9_choose_4 : q_E := (tX9_choose, [(18, [0, 1, 2, 3]), (43, [0, 1, 2, 3, 4])], 6, flX9, [(49, csX9_keepTried), (53, csX9_countFree), (57, csX9_mayStand), (45, csX9_choose_3)], [], [], [], [], [], 6, 0, 0, none, [], [], 0, 0)
theorem okX9_choose_4 (l : Launch) : q_Eok l RX9 cX9_choose EX9_choose_4 := ⟨tX9_choose_ok, flX9_ok, List.forall_mem_cons.mpr ⟨(coX9_49 l), List.forall_mem_cons.mpr ⟨(coX9_53 l), List.forall_mem_cons.mpr ⟨(coX9_57 l), List.forall_mem_cons.mpr ⟨(coX9_45_3 l), q_nil⟩⟩⟩⟩, q_nil, q_nil, q_nil, q_nil, q_nil, (fun h => absurd h (by decide))⟩
set_option maxRecDepth 100000 in
set_option maxHeartbeats 4000000 in
theorem ctX9_choose_4 (l : Launch) : q_CT l yX9_choose (.code yX9_choose cX9_choose 6 none) 6 0 0 (spX9_choose 4 5) := by
  refine q_ct_of EX9_choose_4 (by decide +kernel) (okX9_choose_4 l) rfl rfl rfl rfl rfl q_nil (fun ci h => by cases h) rfl ?_
  intro a w K h
  obtain ⟨Y, th, x, rfl, rfl, ho, hth, hK⟩ := h
  refine ⟨Nat.le_of_ble_eq_true rfl, fun C hC => hC _ _ _ _ _ _ ?_⟩
  have hK : K (.inl none) (treatyW 0 (yCh Y (chB (chF Y.1 Y.2.1 Y.2.2.2.1 3 6) Y.1 Y.2.1 Y.2.2.2.1 5 th x (Y.2.2.2.2.1, Y.2.2.2.2.2.1, Y.2.2.2.2.2.2.1)))) := hK
  have hc : (nI 5).toNatClampNeg = 5 := nI_clamp (by omega)
  have hv : vp_in (nI 5) 9 := vp_in_nI (by omega) (by omega)
  have hfr := frA_le Y.1 Y.2.1 Y.2.2.2.1 x (9 - 5) 5 0
  obtain ⟨h3, h4⟩ := ho 5 (by omega)
  have eT : nI 5 + 1 = nI 6 := nI_1 _
  have main : ∀ s, K (.inl none) (treatyW 0 (yCh Y (if nI (th + frA Y.1 Y.2.1 Y.2.2.2.1 x (9 - 5) 5 0) ≤ s.2.2 then s else chE (chF Y.1 Y.2.1 Y.2.2.2.1 3 6) 5 th x (foldF (chO (chF Y.1 Y.2.1 Y.2.2.2.1 3 6) Y.2.1 Y.2.2.2.1 5 th x) 0 (tcF Y.1 5) s)))) → C 18 [(0, .ref 0), (1, .int (nI 5)), (2, .int (nI th)), (3, .int x)] [] (treatyW 0 (yCh Y s)) 0 0 := by
    intro s hK
    refine hC _ _ _ _ _ _ ?_
    refine And.intro (fun c => absurd c (by decide)) (fun c => ?_)
    refine ⟨yCh Y s, 5, x, rfl, rfl, ho, by omega, And.intro (fun c2 => ?_) (fun c2 => ?_)⟩
    · have c2 : s.2.2 < nI th + nI (frA Y.1 Y.2.1 Y.2.2.2.1 x (9 - 5) 5 0) := c2
      rw [nI_add] at c2
      rw [if_neg (Int32.not_le.mpr c2)] at hK
      have loop : ∀ k i s, i + k = tcF Y.1 5 → K (.inl none) (treatyW 0 (yCh Y (chE (chF Y.1 Y.2.1 Y.2.2.2.1 3 6) 5 th x (foldF (chO (chF Y.1 Y.2.1 Y.2.2.2.1 3 6) Y.2.1 Y.2.2.2.1 5 th x) i k s)))) → C 43 [(0, .ref 0), (1, .int (nI 5)), (2, .int (nI th)), (3, .int x), (4, .int (nI i))] [] (treatyW 0 (yCh Y s)) 0 0 := by
        intro k
        induction k with
        | zero =>
          intro i s hi hK
          refine hC _ _ _ _ _ _ ?_
          refine ⟨hv, And.intro (fun c3 => ?_) (fun c3 => absurd (by show Y.1 (nI 5).toNatClampNeg ≤ nI i; rw [hc, h3]; exact nI_le (by omega) (by omega)) c3)⟩
          exact ⟨hv, yCh Y (upd s.1 5 (-2), s.2.1, s.2.2), th, x, rfl, (by rw [← eT]), ho, by omega, hK⟩
        | succ k ih =>
          intro i s hi hK
          rw [foldF] at hK
          have e2 : nI 5 * 4 + nI i = nI (5 * 4 + i) := by rw [nI_mul4, nI_add]
          have hc2 : (nI 5 * 4 + nI i).toNatClampNeg = 5 * 4 + i := by rw [e2]; exact nI_clamp (by omega)
          have hv2 : vp_in (nI 5 * 4 + nI i) 36 := by rw [e2]; exact vp_in_nI (by omega) (by omega)
          refine hC _ _ _ _ _ _ ?_
          refine ⟨hv, And.intro (fun c3 => absurd (show Y.1 (nI 5).toNatClampNeg ≤ nI i from c3) (by rw [hc, h3]; exact nI_ge (by omega) (by omega))) (fun c3 => ?_)⟩
          refine ⟨yCh Y s, 5 * 4 + i, x, rfl, (by rw [← e2]), by omega, And.intro (fun c4 => ?_) (fun c4 => ?_)⟩
          · have c4 : mayF Y.2.1 Y.2.2.2.1 (5 * 4 + i) x = false := bI_0.mp c4
            rw [chO, c4] at hK
            have h9 := ih (i + 1) s (by omega) hK
            rw [← nI_1 i] at h9
            exact h9
          · have c4 : mayF Y.2.1 Y.2.2.2.1 (5 * 4 + i) x = true := bI_n0.mp c4
            rw [chO, c4, if_pos rfl, ← hc2] at hK
            refine ⟨hv, hv2, yCh Y (upd s.1 5 (nI i), s.2.1, s.2.2), th + 1, _, rfl, (by rw [← eT, ← nI_1 th]), ho, by omega, ?_⟩
            have h9 := ih (i + 1) _ (by omega) hK
            rw [← nI_1 i] at h9
            exact h9
      exact loop (tcF Y.1 5) 0 s (by omega) hK
    · have c2 : ¬ s.2.2 < nI th + nI (frA Y.1 Y.2.1 Y.2.2.2.1 x (9 - 5) 5 0) := c2
      rw [nI_add] at c2
      rw [if_pos (Int32.not_lt.mp c2)] at hK
      exact hK
  refine And.intro (fun c => ?_) (fun c => ?_)
  · have e : chK 5 th (Y.2.2.2.2.1, Y.2.2.2.2.2.1, Y.2.2.2.2.2.2.1) = (Y.2.2.2.2.1, Y.2.2.2.2.2.1, Y.2.2.2.2.2.2.1) := if_neg (Int32.not_lt.mpr c)
    rw [chB, e] at hK
    exact main _ hK
  · have e : chK 5 th (Y.2.2.2.2.1, Y.2.2.2.2.2.1, Y.2.2.2.2.2.2.1) = (Y.2.2.2.2.1, keepF Y.2.2.2.2.1 Y.2.2.2.2.2.1 5 9, nI th) := if_pos (Int32.not_le.mp c)
    rw [chB, e] at hK
    refine ⟨Y, 5, rfl, rfl, by omega, ?_⟩
    exact main _ hK
abbrev csX9_choose_5 : q_S := (4, 9, 7, 6, 0, 0, fdX9_choose, spX9_choose 5 4)
theorem coX9_45_4 (l : Launch) : q_CO l RX9 45 csX9_choose_4 := ⟨yX9_choose, cX9_choose, none, 3, ⟨by decide +kernel, by decide +kernel, by decide +kernel⟩, q_G_i 15 (by decide +kernel) rfl, Or.inl ⟨by decide, rfl, rfl, q_G_i 1103 (by decide +kernel) rfl, q_G_i 1105 (by decide +kernel) rfl, q_G_s (n := 9) 43 (by decide +kernel), Or.inl ⟨q_G_i 1106 (by decide +kernel) rfl, ctX9_choose_4 l⟩⟩⟩
def EX9_choose_5 : q_E := (tX9_choose, [(18, [0, 1, 2, 3]), (43, [0, 1, 2, 3, 4])], 6, flX9, [(49, csX9_keepTried), (53, csX9_countFree), (57, csX9_mayStand), (45, csX9_choose_4)], [], [], [], [], [], 7, 0, 0, none, [], [], 0, 0)
theorem okX9_choose_5 (l : Launch) : q_Eok l RX9 cX9_choose EX9_choose_5 := ⟨tX9_choose_ok, flX9_ok, List.forall_mem_cons.mpr ⟨(coX9_49 l), List.forall_mem_cons.mpr ⟨(coX9_53 l), List.forall_mem_cons.mpr ⟨(coX9_57 l), List.forall_mem_cons.mpr ⟨(coX9_45_4 l), q_nil⟩⟩⟩⟩, q_nil, q_nil, q_nil, q_nil, q_nil, (fun h => absurd h (by decide))⟩
set_option maxRecDepth 100000 in
set_option maxHeartbeats 4000000 in
theorem ctX9_choose_5 (l : Launch) : q_CT l yX9_choose (.code yX9_choose cX9_choose 6 none) 7 0 0 (spX9_choose 5 4) := by
  refine q_ct_of EX9_choose_5 (by decide +kernel) (okX9_choose_5 l) rfl rfl rfl rfl rfl q_nil (fun ci h => by cases h) rfl ?_
  intro a w K h
  obtain ⟨Y, th, x, rfl, rfl, ho, hth, hK⟩ := h
  refine ⟨Nat.le_of_ble_eq_true rfl, fun C hC => hC _ _ _ _ _ _ ?_⟩
  have hK : K (.inl none) (treatyW 0 (yCh Y (chB (chF Y.1 Y.2.1 Y.2.2.2.1 4 5) Y.1 Y.2.1 Y.2.2.2.1 4 th x (Y.2.2.2.2.1, Y.2.2.2.2.2.1, Y.2.2.2.2.2.2.1)))) := hK
  have hc : (nI 4).toNatClampNeg = 4 := nI_clamp (by omega)
  have hv : vp_in (nI 4) 9 := vp_in_nI (by omega) (by omega)
  have hfr := frA_le Y.1 Y.2.1 Y.2.2.2.1 x (9 - 4) 4 0
  obtain ⟨h3, h4⟩ := ho 4 (by omega)
  have eT : nI 4 + 1 = nI 5 := nI_1 _
  have main : ∀ s, K (.inl none) (treatyW 0 (yCh Y (if nI (th + frA Y.1 Y.2.1 Y.2.2.2.1 x (9 - 4) 4 0) ≤ s.2.2 then s else chE (chF Y.1 Y.2.1 Y.2.2.2.1 4 5) 4 th x (foldF (chO (chF Y.1 Y.2.1 Y.2.2.2.1 4 5) Y.2.1 Y.2.2.2.1 4 th x) 0 (tcF Y.1 4) s)))) → C 18 [(0, .ref 0), (1, .int (nI 4)), (2, .int (nI th)), (3, .int x)] [] (treatyW 0 (yCh Y s)) 0 0 := by
    intro s hK
    refine hC _ _ _ _ _ _ ?_
    refine And.intro (fun c => absurd c (by decide)) (fun c => ?_)
    refine ⟨yCh Y s, 4, x, rfl, rfl, ho, by omega, And.intro (fun c2 => ?_) (fun c2 => ?_)⟩
    · have c2 : s.2.2 < nI th + nI (frA Y.1 Y.2.1 Y.2.2.2.1 x (9 - 4) 4 0) := c2
      rw [nI_add] at c2
      rw [if_neg (Int32.not_le.mpr c2)] at hK
      have loop : ∀ k i s, i + k = tcF Y.1 4 → K (.inl none) (treatyW 0 (yCh Y (chE (chF Y.1 Y.2.1 Y.2.2.2.1 4 5) 4 th x (foldF (chO (chF Y.1 Y.2.1 Y.2.2.2.1 4 5) Y.2.1 Y.2.2.2.1 4 th x) i k s)))) → C 43 [(0, .ref 0), (1, .int (nI 4)), (2, .int (nI th)), (3, .int x), (4, .int (nI i))] [] (treatyW 0 (yCh Y s)) 0 0 := by
        intro k
        induction k with
        | zero =>
          intro i s hi hK
          refine hC _ _ _ _ _ _ ?_
          refine ⟨hv, And.intro (fun c3 => ?_) (fun c3 => absurd (by show Y.1 (nI 4).toNatClampNeg ≤ nI i; rw [hc, h3]; exact nI_le (by omega) (by omega)) c3)⟩
          exact ⟨hv, yCh Y (upd s.1 4 (-2), s.2.1, s.2.2), th, x, rfl, (by rw [← eT]), ho, by omega, hK⟩
        | succ k ih =>
          intro i s hi hK
          rw [foldF] at hK
          have e2 : nI 4 * 4 + nI i = nI (4 * 4 + i) := by rw [nI_mul4, nI_add]
          have hc2 : (nI 4 * 4 + nI i).toNatClampNeg = 4 * 4 + i := by rw [e2]; exact nI_clamp (by omega)
          have hv2 : vp_in (nI 4 * 4 + nI i) 36 := by rw [e2]; exact vp_in_nI (by omega) (by omega)
          refine hC _ _ _ _ _ _ ?_
          refine ⟨hv, And.intro (fun c3 => absurd (show Y.1 (nI 4).toNatClampNeg ≤ nI i from c3) (by rw [hc, h3]; exact nI_ge (by omega) (by omega))) (fun c3 => ?_)⟩
          refine ⟨yCh Y s, 4 * 4 + i, x, rfl, (by rw [← e2]), by omega, And.intro (fun c4 => ?_) (fun c4 => ?_)⟩
          · have c4 : mayF Y.2.1 Y.2.2.2.1 (4 * 4 + i) x = false := bI_0.mp c4
            rw [chO, c4] at hK
            have h9 := ih (i + 1) s (by omega) hK
            rw [← nI_1 i] at h9
            exact h9
          · have c4 : mayF Y.2.1 Y.2.2.2.1 (4 * 4 + i) x = true := bI_n0.mp c4
            rw [chO, c4, if_pos rfl, ← hc2] at hK
            refine ⟨hv, hv2, yCh Y (upd s.1 4 (nI i), s.2.1, s.2.2), th + 1, _, rfl, (by rw [← eT, ← nI_1 th]), ho, by omega, ?_⟩
            have h9 := ih (i + 1) _ (by omega) hK
            rw [← nI_1 i] at h9
            exact h9
      exact loop (tcF Y.1 4) 0 s (by omega) hK
    · have c2 : ¬ s.2.2 < nI th + nI (frA Y.1 Y.2.1 Y.2.2.2.1 x (9 - 4) 4 0) := c2
      rw [nI_add] at c2
      rw [if_pos (Int32.not_lt.mp c2)] at hK
      exact hK
  refine And.intro (fun c => ?_) (fun c => ?_)
  · have e : chK 4 th (Y.2.2.2.2.1, Y.2.2.2.2.2.1, Y.2.2.2.2.2.2.1) = (Y.2.2.2.2.1, Y.2.2.2.2.2.1, Y.2.2.2.2.2.2.1) := if_neg (Int32.not_lt.mpr c)
    rw [chB, e] at hK
    exact main _ hK
  · have e : chK 4 th (Y.2.2.2.2.1, Y.2.2.2.2.2.1, Y.2.2.2.2.2.2.1) = (Y.2.2.2.2.1, keepF Y.2.2.2.2.1 Y.2.2.2.2.2.1 4 9, nI th) := if_pos (Int32.not_le.mp c)
    rw [chB, e] at hK
    refine ⟨Y, 4, rfl, rfl, by omega, ?_⟩
    exact main _ hK
abbrev csX9_choose_6 : q_S := (4, 9, 8, 6, 0, 0, fdX9_choose, spX9_choose 6 3)
theorem coX9_45_5 (l : Launch) : q_CO l RX9 45 csX9_choose_5 := ⟨yX9_choose, cX9_choose, none, 3, ⟨by decide +kernel, by decide +kernel, by decide +kernel⟩, q_G_i 15 (by decide +kernel) rfl, Or.inl ⟨by decide, rfl, rfl, q_G_i 1103 (by decide +kernel) rfl, q_G_i 1105 (by decide +kernel) rfl, q_G_s (n := 9) 43 (by decide +kernel), Or.inl ⟨q_G_i 1106 (by decide +kernel) rfl, ctX9_choose_5 l⟩⟩⟩
def EX9_choose_6 : q_E := (tX9_choose, [(18, [0, 1, 2, 3]), (43, [0, 1, 2, 3, 4])], 6, flX9, [(49, csX9_keepTried), (53, csX9_countFree), (57, csX9_mayStand), (45, csX9_choose_5)], [], [], [], [], [], 8, 0, 0, none, [], [], 0, 0)
theorem okX9_choose_6 (l : Launch) : q_Eok l RX9 cX9_choose EX9_choose_6 := ⟨tX9_choose_ok, flX9_ok, List.forall_mem_cons.mpr ⟨(coX9_49 l), List.forall_mem_cons.mpr ⟨(coX9_53 l), List.forall_mem_cons.mpr ⟨(coX9_57 l), List.forall_mem_cons.mpr ⟨(coX9_45_5 l), q_nil⟩⟩⟩⟩, q_nil, q_nil, q_nil, q_nil, q_nil, (fun h => absurd h (by decide))⟩
set_option maxRecDepth 100000 in
set_option maxHeartbeats 4000000 in
theorem ctX9_choose_6 (l : Launch) : q_CT l yX9_choose (.code yX9_choose cX9_choose 6 none) 8 0 0 (spX9_choose 6 3) := by
  refine q_ct_of EX9_choose_6 (by decide +kernel) (okX9_choose_6 l) rfl rfl rfl rfl rfl q_nil (fun ci h => by cases h) rfl ?_
  intro a w K h
  obtain ⟨Y, th, x, rfl, rfl, ho, hth, hK⟩ := h
  refine ⟨Nat.le_of_ble_eq_true rfl, fun C hC => hC _ _ _ _ _ _ ?_⟩
  have hK : K (.inl none) (treatyW 0 (yCh Y (chB (chF Y.1 Y.2.1 Y.2.2.2.1 5 4) Y.1 Y.2.1 Y.2.2.2.1 3 th x (Y.2.2.2.2.1, Y.2.2.2.2.2.1, Y.2.2.2.2.2.2.1)))) := hK
  have hc : (nI 3).toNatClampNeg = 3 := nI_clamp (by omega)
  have hv : vp_in (nI 3) 9 := vp_in_nI (by omega) (by omega)
  have hfr := frA_le Y.1 Y.2.1 Y.2.2.2.1 x (9 - 3) 3 0
  obtain ⟨h3, h4⟩ := ho 3 (by omega)
  have eT : nI 3 + 1 = nI 4 := nI_1 _
  have main : ∀ s, K (.inl none) (treatyW 0 (yCh Y (if nI (th + frA Y.1 Y.2.1 Y.2.2.2.1 x (9 - 3) 3 0) ≤ s.2.2 then s else chE (chF Y.1 Y.2.1 Y.2.2.2.1 5 4) 3 th x (foldF (chO (chF Y.1 Y.2.1 Y.2.2.2.1 5 4) Y.2.1 Y.2.2.2.1 3 th x) 0 (tcF Y.1 3) s)))) → C 18 [(0, .ref 0), (1, .int (nI 3)), (2, .int (nI th)), (3, .int x)] [] (treatyW 0 (yCh Y s)) 0 0 := by
    intro s hK
    refine hC _ _ _ _ _ _ ?_
    refine And.intro (fun c => absurd c (by decide)) (fun c => ?_)
    refine ⟨yCh Y s, 3, x, rfl, rfl, ho, by omega, And.intro (fun c2 => ?_) (fun c2 => ?_)⟩
    · have c2 : s.2.2 < nI th + nI (frA Y.1 Y.2.1 Y.2.2.2.1 x (9 - 3) 3 0) := c2
      rw [nI_add] at c2
      rw [if_neg (Int32.not_le.mpr c2)] at hK
      have loop : ∀ k i s, i + k = tcF Y.1 3 → K (.inl none) (treatyW 0 (yCh Y (chE (chF Y.1 Y.2.1 Y.2.2.2.1 5 4) 3 th x (foldF (chO (chF Y.1 Y.2.1 Y.2.2.2.1 5 4) Y.2.1 Y.2.2.2.1 3 th x) i k s)))) → C 43 [(0, .ref 0), (1, .int (nI 3)), (2, .int (nI th)), (3, .int x), (4, .int (nI i))] [] (treatyW 0 (yCh Y s)) 0 0 := by
        intro k
        induction k with
        | zero =>
          intro i s hi hK
          refine hC _ _ _ _ _ _ ?_
          refine ⟨hv, And.intro (fun c3 => ?_) (fun c3 => absurd (by show Y.1 (nI 3).toNatClampNeg ≤ nI i; rw [hc, h3]; exact nI_le (by omega) (by omega)) c3)⟩
          exact ⟨hv, yCh Y (upd s.1 3 (-2), s.2.1, s.2.2), th, x, rfl, (by rw [← eT]), ho, by omega, hK⟩
        | succ k ih =>
          intro i s hi hK
          rw [foldF] at hK
          have e2 : nI 3 * 4 + nI i = nI (3 * 4 + i) := by rw [nI_mul4, nI_add]
          have hc2 : (nI 3 * 4 + nI i).toNatClampNeg = 3 * 4 + i := by rw [e2]; exact nI_clamp (by omega)
          have hv2 : vp_in (nI 3 * 4 + nI i) 36 := by rw [e2]; exact vp_in_nI (by omega) (by omega)
          refine hC _ _ _ _ _ _ ?_
          refine ⟨hv, And.intro (fun c3 => absurd (show Y.1 (nI 3).toNatClampNeg ≤ nI i from c3) (by rw [hc, h3]; exact nI_ge (by omega) (by omega))) (fun c3 => ?_)⟩
          refine ⟨yCh Y s, 3 * 4 + i, x, rfl, (by rw [← e2]), by omega, And.intro (fun c4 => ?_) (fun c4 => ?_)⟩
          · have c4 : mayF Y.2.1 Y.2.2.2.1 (3 * 4 + i) x = false := bI_0.mp c4
            rw [chO, c4] at hK
            have h9 := ih (i + 1) s (by omega) hK
            rw [← nI_1 i] at h9
            exact h9
          · have c4 : mayF Y.2.1 Y.2.2.2.1 (3 * 4 + i) x = true := bI_n0.mp c4
            rw [chO, c4, if_pos rfl, ← hc2] at hK
            refine ⟨hv, hv2, yCh Y (upd s.1 3 (nI i), s.2.1, s.2.2), th + 1, _, rfl, (by rw [← eT, ← nI_1 th]), ho, by omega, ?_⟩
            have h9 := ih (i + 1) _ (by omega) hK
            rw [← nI_1 i] at h9
            exact h9
      exact loop (tcF Y.1 3) 0 s (by omega) hK
    · have c2 : ¬ s.2.2 < nI th + nI (frA Y.1 Y.2.1 Y.2.2.2.1 x (9 - 3) 3 0) := c2
      rw [nI_add] at c2
      rw [if_pos (Int32.not_lt.mp c2)] at hK
      exact hK
  refine And.intro (fun c => ?_) (fun c => ?_)
  · have e : chK 3 th (Y.2.2.2.2.1, Y.2.2.2.2.2.1, Y.2.2.2.2.2.2.1) = (Y.2.2.2.2.1, Y.2.2.2.2.2.1, Y.2.2.2.2.2.2.1) := if_neg (Int32.not_lt.mpr c)
    rw [chB, e] at hK
    exact main _ hK
  · have e : chK 3 th (Y.2.2.2.2.1, Y.2.2.2.2.2.1, Y.2.2.2.2.2.2.1) = (Y.2.2.2.2.1, keepF Y.2.2.2.2.1 Y.2.2.2.2.2.1 3 9, nI th) := if_pos (Int32.not_le.mp c)
    rw [chB, e] at hK
    refine ⟨Y, 3, rfl, rfl, by omega, ?_⟩
    exact main _ hK
abbrev csX9_choose_7 : q_S := (4, 9, 9, 6, 0, 0, fdX9_choose, spX9_choose 7 2)
theorem coX9_45_6 (l : Launch) : q_CO l RX9 45 csX9_choose_6 := ⟨yX9_choose, cX9_choose, none, 3, ⟨by decide +kernel, by decide +kernel, by decide +kernel⟩, q_G_i 15 (by decide +kernel) rfl, Or.inl ⟨by decide, rfl, rfl, q_G_i 1103 (by decide +kernel) rfl, q_G_i 1105 (by decide +kernel) rfl, q_G_s (n := 9) 43 (by decide +kernel), Or.inl ⟨q_G_i 1106 (by decide +kernel) rfl, ctX9_choose_6 l⟩⟩⟩
def EX9_choose_7 : q_E := (tX9_choose, [(18, [0, 1, 2, 3]), (43, [0, 1, 2, 3, 4])], 6, flX9, [(49, csX9_keepTried), (53, csX9_countFree), (57, csX9_mayStand), (45, csX9_choose_6)], [], [], [], [], [], 9, 0, 0, none, [], [], 0, 0)
theorem okX9_choose_7 (l : Launch) : q_Eok l RX9 cX9_choose EX9_choose_7 := ⟨tX9_choose_ok, flX9_ok, List.forall_mem_cons.mpr ⟨(coX9_49 l), List.forall_mem_cons.mpr ⟨(coX9_53 l), List.forall_mem_cons.mpr ⟨(coX9_57 l), List.forall_mem_cons.mpr ⟨(coX9_45_6 l), q_nil⟩⟩⟩⟩, q_nil, q_nil, q_nil, q_nil, q_nil, (fun h => absurd h (by decide))⟩
set_option maxRecDepth 100000 in
set_option maxHeartbeats 4000000 in
theorem ctX9_choose_7 (l : Launch) : q_CT l yX9_choose (.code yX9_choose cX9_choose 6 none) 9 0 0 (spX9_choose 7 2) := by
  refine q_ct_of EX9_choose_7 (by decide +kernel) (okX9_choose_7 l) rfl rfl rfl rfl rfl q_nil (fun ci h => by cases h) rfl ?_
  intro a w K h
  obtain ⟨Y, th, x, rfl, rfl, ho, hth, hK⟩ := h
  refine ⟨Nat.le_of_ble_eq_true rfl, fun C hC => hC _ _ _ _ _ _ ?_⟩
  have hK : K (.inl none) (treatyW 0 (yCh Y (chB (chF Y.1 Y.2.1 Y.2.2.2.1 6 3) Y.1 Y.2.1 Y.2.2.2.1 2 th x (Y.2.2.2.2.1, Y.2.2.2.2.2.1, Y.2.2.2.2.2.2.1)))) := hK
  have hc : (nI 2).toNatClampNeg = 2 := nI_clamp (by omega)
  have hv : vp_in (nI 2) 9 := vp_in_nI (by omega) (by omega)
  have hfr := frA_le Y.1 Y.2.1 Y.2.2.2.1 x (9 - 2) 2 0
  obtain ⟨h3, h4⟩ := ho 2 (by omega)
  have eT : nI 2 + 1 = nI 3 := nI_1 _
  have main : ∀ s, K (.inl none) (treatyW 0 (yCh Y (if nI (th + frA Y.1 Y.2.1 Y.2.2.2.1 x (9 - 2) 2 0) ≤ s.2.2 then s else chE (chF Y.1 Y.2.1 Y.2.2.2.1 6 3) 2 th x (foldF (chO (chF Y.1 Y.2.1 Y.2.2.2.1 6 3) Y.2.1 Y.2.2.2.1 2 th x) 0 (tcF Y.1 2) s)))) → C 18 [(0, .ref 0), (1, .int (nI 2)), (2, .int (nI th)), (3, .int x)] [] (treatyW 0 (yCh Y s)) 0 0 := by
    intro s hK
    refine hC _ _ _ _ _ _ ?_
    refine And.intro (fun c => absurd c (by decide)) (fun c => ?_)
    refine ⟨yCh Y s, 2, x, rfl, rfl, ho, by omega, And.intro (fun c2 => ?_) (fun c2 => ?_)⟩
    · have c2 : s.2.2 < nI th + nI (frA Y.1 Y.2.1 Y.2.2.2.1 x (9 - 2) 2 0) := c2
      rw [nI_add] at c2
      rw [if_neg (Int32.not_le.mpr c2)] at hK
      have loop : ∀ k i s, i + k = tcF Y.1 2 → K (.inl none) (treatyW 0 (yCh Y (chE (chF Y.1 Y.2.1 Y.2.2.2.1 6 3) 2 th x (foldF (chO (chF Y.1 Y.2.1 Y.2.2.2.1 6 3) Y.2.1 Y.2.2.2.1 2 th x) i k s)))) → C 43 [(0, .ref 0), (1, .int (nI 2)), (2, .int (nI th)), (3, .int x), (4, .int (nI i))] [] (treatyW 0 (yCh Y s)) 0 0 := by
        intro k
        induction k with
        | zero =>
          intro i s hi hK
          refine hC _ _ _ _ _ _ ?_
          refine ⟨hv, And.intro (fun c3 => ?_) (fun c3 => absurd (by show Y.1 (nI 2).toNatClampNeg ≤ nI i; rw [hc, h3]; exact nI_le (by omega) (by omega)) c3)⟩
          exact ⟨hv, yCh Y (upd s.1 2 (-2), s.2.1, s.2.2), th, x, rfl, (by rw [← eT]), ho, by omega, hK⟩
        | succ k ih =>
          intro i s hi hK
          rw [foldF] at hK
          have e2 : nI 2 * 4 + nI i = nI (2 * 4 + i) := by rw [nI_mul4, nI_add]
          have hc2 : (nI 2 * 4 + nI i).toNatClampNeg = 2 * 4 + i := by rw [e2]; exact nI_clamp (by omega)
          have hv2 : vp_in (nI 2 * 4 + nI i) 36 := by rw [e2]; exact vp_in_nI (by omega) (by omega)
          refine hC _ _ _ _ _ _ ?_
          refine ⟨hv, And.intro (fun c3 => absurd (show Y.1 (nI 2).toNatClampNeg ≤ nI i from c3) (by rw [hc, h3]; exact nI_ge (by omega) (by omega))) (fun c3 => ?_)⟩
          refine ⟨yCh Y s, 2 * 4 + i, x, rfl, (by rw [← e2]), by omega, And.intro (fun c4 => ?_) (fun c4 => ?_)⟩
          · have c4 : mayF Y.2.1 Y.2.2.2.1 (2 * 4 + i) x = false := bI_0.mp c4
            rw [chO, c4] at hK
            have h9 := ih (i + 1) s (by omega) hK
            rw [← nI_1 i] at h9
            exact h9
          · have c4 : mayF Y.2.1 Y.2.2.2.1 (2 * 4 + i) x = true := bI_n0.mp c4
            rw [chO, c4, if_pos rfl, ← hc2] at hK
            refine ⟨hv, hv2, yCh Y (upd s.1 2 (nI i), s.2.1, s.2.2), th + 1, _, rfl, (by rw [← eT, ← nI_1 th]), ho, by omega, ?_⟩
            have h9 := ih (i + 1) _ (by omega) hK
            rw [← nI_1 i] at h9
            exact h9
      exact loop (tcF Y.1 2) 0 s (by omega) hK
    · have c2 : ¬ s.2.2 < nI th + nI (frA Y.1 Y.2.1 Y.2.2.2.1 x (9 - 2) 2 0) := c2
      rw [nI_add] at c2
      rw [if_pos (Int32.not_lt.mp c2)] at hK
      exact hK
  refine And.intro (fun c => ?_) (fun c => ?_)
  · have e : chK 2 th (Y.2.2.2.2.1, Y.2.2.2.2.2.1, Y.2.2.2.2.2.2.1) = (Y.2.2.2.2.1, Y.2.2.2.2.2.1, Y.2.2.2.2.2.2.1) := if_neg (Int32.not_lt.mpr c)
    rw [chB, e] at hK
    exact main _ hK
  · have e : chK 2 th (Y.2.2.2.2.1, Y.2.2.2.2.2.1, Y.2.2.2.2.2.2.1) = (Y.2.2.2.2.1, keepF Y.2.2.2.2.1 Y.2.2.2.2.2.1 2 9, nI th) := if_pos (Int32.not_le.mp c)
    rw [chB, e] at hK
    refine ⟨Y, 2, rfl, rfl, by omega, ?_⟩
    exact main _ hK
abbrev csX9_choose_8 : q_S := (4, 9, 10, 6, 0, 0, fdX9_choose, spX9_choose 8 1)
theorem coX9_45_7 (l : Launch) : q_CO l RX9 45 csX9_choose_7 := ⟨yX9_choose, cX9_choose, none, 3, ⟨by decide +kernel, by decide +kernel, by decide +kernel⟩, q_G_i 15 (by decide +kernel) rfl, Or.inl ⟨by decide, rfl, rfl, q_G_i 1103 (by decide +kernel) rfl, q_G_i 1105 (by decide +kernel) rfl, q_G_s (n := 9) 43 (by decide +kernel), Or.inl ⟨q_G_i 1106 (by decide +kernel) rfl, ctX9_choose_7 l⟩⟩⟩
def EX9_choose_8 : q_E := (tX9_choose, [(18, [0, 1, 2, 3]), (43, [0, 1, 2, 3, 4])], 6, flX9, [(49, csX9_keepTried), (53, csX9_countFree), (57, csX9_mayStand), (45, csX9_choose_7)], [], [], [], [], [], 10, 0, 0, none, [], [], 0, 0)
theorem okX9_choose_8 (l : Launch) : q_Eok l RX9 cX9_choose EX9_choose_8 := ⟨tX9_choose_ok, flX9_ok, List.forall_mem_cons.mpr ⟨(coX9_49 l), List.forall_mem_cons.mpr ⟨(coX9_53 l), List.forall_mem_cons.mpr ⟨(coX9_57 l), List.forall_mem_cons.mpr ⟨(coX9_45_7 l), q_nil⟩⟩⟩⟩, q_nil, q_nil, q_nil, q_nil, q_nil, (fun h => absurd h (by decide))⟩
set_option maxRecDepth 100000 in
set_option maxHeartbeats 4000000 in
theorem ctX9_choose_8 (l : Launch) : q_CT l yX9_choose (.code yX9_choose cX9_choose 6 none) 10 0 0 (spX9_choose 8 1) := by
  refine q_ct_of EX9_choose_8 (by decide +kernel) (okX9_choose_8 l) rfl rfl rfl rfl rfl q_nil (fun ci h => by cases h) rfl ?_
  intro a w K h
  obtain ⟨Y, th, x, rfl, rfl, ho, hth, hK⟩ := h
  refine ⟨Nat.le_of_ble_eq_true rfl, fun C hC => hC _ _ _ _ _ _ ?_⟩
  have hK : K (.inl none) (treatyW 0 (yCh Y (chB (chF Y.1 Y.2.1 Y.2.2.2.1 7 2) Y.1 Y.2.1 Y.2.2.2.1 1 th x (Y.2.2.2.2.1, Y.2.2.2.2.2.1, Y.2.2.2.2.2.2.1)))) := hK
  have hc : (nI 1).toNatClampNeg = 1 := nI_clamp (by omega)
  have hv : vp_in (nI 1) 9 := vp_in_nI (by omega) (by omega)
  have hfr := frA_le Y.1 Y.2.1 Y.2.2.2.1 x (9 - 1) 1 0
  obtain ⟨h3, h4⟩ := ho 1 (by omega)
  have eT : nI 1 + 1 = nI 2 := nI_1 _
  have main : ∀ s, K (.inl none) (treatyW 0 (yCh Y (if nI (th + frA Y.1 Y.2.1 Y.2.2.2.1 x (9 - 1) 1 0) ≤ s.2.2 then s else chE (chF Y.1 Y.2.1 Y.2.2.2.1 7 2) 1 th x (foldF (chO (chF Y.1 Y.2.1 Y.2.2.2.1 7 2) Y.2.1 Y.2.2.2.1 1 th x) 0 (tcF Y.1 1) s)))) → C 18 [(0, .ref 0), (1, .int (nI 1)), (2, .int (nI th)), (3, .int x)] [] (treatyW 0 (yCh Y s)) 0 0 := by
    intro s hK
    refine hC _ _ _ _ _ _ ?_
    refine And.intro (fun c => absurd c (by decide)) (fun c => ?_)
    refine ⟨yCh Y s, 1, x, rfl, rfl, ho, by omega, And.intro (fun c2 => ?_) (fun c2 => ?_)⟩
    · have c2 : s.2.2 < nI th + nI (frA Y.1 Y.2.1 Y.2.2.2.1 x (9 - 1) 1 0) := c2
      rw [nI_add] at c2
      rw [if_neg (Int32.not_le.mpr c2)] at hK
      have loop : ∀ k i s, i + k = tcF Y.1 1 → K (.inl none) (treatyW 0 (yCh Y (chE (chF Y.1 Y.2.1 Y.2.2.2.1 7 2) 1 th x (foldF (chO (chF Y.1 Y.2.1 Y.2.2.2.1 7 2) Y.2.1 Y.2.2.2.1 1 th x) i k s)))) → C 43 [(0, .ref 0), (1, .int (nI 1)), (2, .int (nI th)), (3, .int x), (4, .int (nI i))] [] (treatyW 0 (yCh Y s)) 0 0 := by
        intro k
        induction k with
        | zero =>
          intro i s hi hK
          refine hC _ _ _ _ _ _ ?_
          refine ⟨hv, And.intro (fun c3 => ?_) (fun c3 => absurd (by show Y.1 (nI 1).toNatClampNeg ≤ nI i; rw [hc, h3]; exact nI_le (by omega) (by omega)) c3)⟩
          exact ⟨hv, yCh Y (upd s.1 1 (-2), s.2.1, s.2.2), th, x, rfl, (by rw [← eT]), ho, by omega, hK⟩
        | succ k ih =>
          intro i s hi hK
          rw [foldF] at hK
          have e2 : nI 1 * 4 + nI i = nI (1 * 4 + i) := by rw [nI_mul4, nI_add]
          have hc2 : (nI 1 * 4 + nI i).toNatClampNeg = 1 * 4 + i := by rw [e2]; exact nI_clamp (by omega)
          have hv2 : vp_in (nI 1 * 4 + nI i) 36 := by rw [e2]; exact vp_in_nI (by omega) (by omega)
          refine hC _ _ _ _ _ _ ?_
          refine ⟨hv, And.intro (fun c3 => absurd (show Y.1 (nI 1).toNatClampNeg ≤ nI i from c3) (by rw [hc, h3]; exact nI_ge (by omega) (by omega))) (fun c3 => ?_)⟩
          refine ⟨yCh Y s, 1 * 4 + i, x, rfl, (by rw [← e2]), by omega, And.intro (fun c4 => ?_) (fun c4 => ?_)⟩
          · have c4 : mayF Y.2.1 Y.2.2.2.1 (1 * 4 + i) x = false := bI_0.mp c4
            rw [chO, c4] at hK
            have h9 := ih (i + 1) s (by omega) hK
            rw [← nI_1 i] at h9
            exact h9
          · have c4 : mayF Y.2.1 Y.2.2.2.1 (1 * 4 + i) x = true := bI_n0.mp c4
            rw [chO, c4, if_pos rfl, ← hc2] at hK
            refine ⟨hv, hv2, yCh Y (upd s.1 1 (nI i), s.2.1, s.2.2), th + 1, _, rfl, (by rw [← eT, ← nI_1 th]), ho, by omega, ?_⟩
            have h9 := ih (i + 1) _ (by omega) hK
            rw [← nI_1 i] at h9
            exact h9
      exact loop (tcF Y.1 1) 0 s (by omega) hK
    · have c2 : ¬ s.2.2 < nI th + nI (frA Y.1 Y.2.1 Y.2.2.2.1 x (9 - 1) 1 0) := c2
      rw [nI_add] at c2
      rw [if_pos (Int32.not_lt.mp c2)] at hK
      exact hK
  refine And.intro (fun c => ?_) (fun c => ?_)
  · have e : chK 1 th (Y.2.2.2.2.1, Y.2.2.2.2.2.1, Y.2.2.2.2.2.2.1) = (Y.2.2.2.2.1, Y.2.2.2.2.2.1, Y.2.2.2.2.2.2.1) := if_neg (Int32.not_lt.mpr c)
    rw [chB, e] at hK
    exact main _ hK
  · have e : chK 1 th (Y.2.2.2.2.1, Y.2.2.2.2.2.1, Y.2.2.2.2.2.2.1) = (Y.2.2.2.2.1, keepF Y.2.2.2.2.1 Y.2.2.2.2.2.1 1 9, nI th) := if_pos (Int32.not_le.mp c)
    rw [chB, e] at hK
    refine ⟨Y, 1, rfl, rfl, by omega, ?_⟩
    exact main _ hK
abbrev csX9_choose_9 : q_S := (4, 9, 11, 6, 0, 0, fdX9_choose, spX9_choose 9 0)
theorem coX9_45_8 (l : Launch) : q_CO l RX9 45 csX9_choose_8 := ⟨yX9_choose, cX9_choose, none, 3, ⟨by decide +kernel, by decide +kernel, by decide +kernel⟩, q_G_i 15 (by decide +kernel) rfl, Or.inl ⟨by decide, rfl, rfl, q_G_i 1103 (by decide +kernel) rfl, q_G_i 1105 (by decide +kernel) rfl, q_G_s (n := 9) 43 (by decide +kernel), Or.inl ⟨q_G_i 1106 (by decide +kernel) rfl, ctX9_choose_8 l⟩⟩⟩
def EX9_choose_9 : q_E := (tX9_choose, [(18, [0, 1, 2, 3]), (43, [0, 1, 2, 3, 4])], 6, flX9, [(49, csX9_keepTried), (53, csX9_countFree), (57, csX9_mayStand), (45, csX9_choose_8)], [], [], [], [], [], 11, 0, 0, none, [], [], 0, 0)
theorem okX9_choose_9 (l : Launch) : q_Eok l RX9 cX9_choose EX9_choose_9 := ⟨tX9_choose_ok, flX9_ok, List.forall_mem_cons.mpr ⟨(coX9_49 l), List.forall_mem_cons.mpr ⟨(coX9_53 l), List.forall_mem_cons.mpr ⟨(coX9_57 l), List.forall_mem_cons.mpr ⟨(coX9_45_8 l), q_nil⟩⟩⟩⟩, q_nil, q_nil, q_nil, q_nil, q_nil, (fun h => absurd h (by decide))⟩
set_option maxRecDepth 100000 in
set_option maxHeartbeats 4000000 in
theorem ctX9_choose_9 (l : Launch) : q_CT l yX9_choose (.code yX9_choose cX9_choose 6 none) 11 0 0 (spX9_choose 9 0) := by
  refine q_ct_of EX9_choose_9 (by decide +kernel) (okX9_choose_9 l) rfl rfl rfl rfl rfl q_nil (fun ci h => by cases h) rfl ?_
  intro a w K h
  obtain ⟨Y, th, x, rfl, rfl, ho, hth, hK⟩ := h
  refine ⟨Nat.le_of_ble_eq_true rfl, fun C hC => hC _ _ _ _ _ _ ?_⟩
  have hK : K (.inl none) (treatyW 0 (yCh Y (chB (chF Y.1 Y.2.1 Y.2.2.2.1 8 1) Y.1 Y.2.1 Y.2.2.2.1 0 th x (Y.2.2.2.2.1, Y.2.2.2.2.2.1, Y.2.2.2.2.2.2.1)))) := hK
  have hc : (nI 0).toNatClampNeg = 0 := nI_clamp (by omega)
  have hv : vp_in (nI 0) 9 := vp_in_nI (by omega) (by omega)
  have hfr := frA_le Y.1 Y.2.1 Y.2.2.2.1 x (9 - 0) 0 0
  obtain ⟨h3, h4⟩ := ho 0 (by omega)
  have eT : nI 0 + 1 = nI 1 := nI_1 _
  have main : ∀ s, K (.inl none) (treatyW 0 (yCh Y (if nI (th + frA Y.1 Y.2.1 Y.2.2.2.1 x (9 - 0) 0 0) ≤ s.2.2 then s else chE (chF Y.1 Y.2.1 Y.2.2.2.1 8 1) 0 th x (foldF (chO (chF Y.1 Y.2.1 Y.2.2.2.1 8 1) Y.2.1 Y.2.2.2.1 0 th x) 0 (tcF Y.1 0) s)))) → C 18 [(0, .ref 0), (1, .int (nI 0)), (2, .int (nI th)), (3, .int x)] [] (treatyW 0 (yCh Y s)) 0 0 := by
    intro s hK
    refine hC _ _ _ _ _ _ ?_
    refine And.intro (fun c => absurd c (by decide)) (fun c => ?_)
    refine ⟨yCh Y s, 0, x, rfl, rfl, ho, by omega, And.intro (fun c2 => ?_) (fun c2 => ?_)⟩
    · have c2 : s.2.2 < nI th + nI (frA Y.1 Y.2.1 Y.2.2.2.1 x (9 - 0) 0 0) := c2
      rw [nI_add] at c2
      rw [if_neg (Int32.not_le.mpr c2)] at hK
      have loop : ∀ k i s, i + k = tcF Y.1 0 → K (.inl none) (treatyW 0 (yCh Y (chE (chF Y.1 Y.2.1 Y.2.2.2.1 8 1) 0 th x (foldF (chO (chF Y.1 Y.2.1 Y.2.2.2.1 8 1) Y.2.1 Y.2.2.2.1 0 th x) i k s)))) → C 43 [(0, .ref 0), (1, .int (nI 0)), (2, .int (nI th)), (3, .int x), (4, .int (nI i))] [] (treatyW 0 (yCh Y s)) 0 0 := by
        intro k
        induction k with
        | zero =>
          intro i s hi hK
          refine hC _ _ _ _ _ _ ?_
          refine ⟨hv, And.intro (fun c3 => ?_) (fun c3 => absurd (by show Y.1 (nI 0).toNatClampNeg ≤ nI i; rw [hc, h3]; exact nI_le (by omega) (by omega)) c3)⟩
          exact ⟨hv, yCh Y (upd s.1 0 (-2), s.2.1, s.2.2), th, x, rfl, (by rw [← eT]), ho, by omega, hK⟩
        | succ k ih =>
          intro i s hi hK
          rw [foldF] at hK
          have e2 : nI 0 * 4 + nI i = nI (0 * 4 + i) := by rw [nI_mul4, nI_add]
          have hc2 : (nI 0 * 4 + nI i).toNatClampNeg = 0 * 4 + i := by rw [e2]; exact nI_clamp (by omega)
          have hv2 : vp_in (nI 0 * 4 + nI i) 36 := by rw [e2]; exact vp_in_nI (by omega) (by omega)
          refine hC _ _ _ _ _ _ ?_
          refine ⟨hv, And.intro (fun c3 => absurd (show Y.1 (nI 0).toNatClampNeg ≤ nI i from c3) (by rw [hc, h3]; exact nI_ge (by omega) (by omega))) (fun c3 => ?_)⟩
          refine ⟨yCh Y s, 0 * 4 + i, x, rfl, (by rw [← e2]), by omega, And.intro (fun c4 => ?_) (fun c4 => ?_)⟩
          · have c4 : mayF Y.2.1 Y.2.2.2.1 (0 * 4 + i) x = false := bI_0.mp c4
            rw [chO, c4] at hK
            have h9 := ih (i + 1) s (by omega) hK
            rw [← nI_1 i] at h9
            exact h9
          · have c4 : mayF Y.2.1 Y.2.2.2.1 (0 * 4 + i) x = true := bI_n0.mp c4
            rw [chO, c4, if_pos rfl, ← hc2] at hK
            refine ⟨hv, hv2, yCh Y (upd s.1 0 (nI i), s.2.1, s.2.2), th + 1, _, rfl, (by rw [← eT, ← nI_1 th]), ho, by omega, ?_⟩
            have h9 := ih (i + 1) _ (by omega) hK
            rw [← nI_1 i] at h9
            exact h9
      exact loop (tcF Y.1 0) 0 s (by omega) hK
    · have c2 : ¬ s.2.2 < nI th + nI (frA Y.1 Y.2.1 Y.2.2.2.1 x (9 - 0) 0 0) := c2
      rw [nI_add] at c2
      rw [if_pos (Int32.not_lt.mp c2)] at hK
      exact hK
  refine And.intro (fun c => ?_) (fun c => ?_)
  · have e : chK 0 th (Y.2.2.2.2.1, Y.2.2.2.2.2.1, Y.2.2.2.2.2.2.1) = (Y.2.2.2.2.1, Y.2.2.2.2.2.1, Y.2.2.2.2.2.2.1) := if_neg (Int32.not_lt.mpr c)
    rw [chB, e] at hK
    exact main _ hK
  · have e : chK 0 th (Y.2.2.2.2.1, Y.2.2.2.2.2.1, Y.2.2.2.2.2.2.1) = (Y.2.2.2.2.1, keepF Y.2.2.2.2.1 Y.2.2.2.2.2.1 0 9, nI th) := if_pos (Int32.not_le.mp c)
    rw [chB, e] at hK
    refine ⟨Y, 0, rfl, rfl, by omega, ?_⟩
    exact main _ hK
abbrev csX9_choose : q_S := csX9_choose_9
theorem ctX9_choose (l : Launch) : q_CT l yX9_choose (.code yX9_choose cX9_choose 6 none) 11 0 0 (spX9_choose 9 0) := ctX9_choose_9 l
def brOk (Y : YT) (br : Nat → Int32) (j : Nat) : Prop := ∀ t i, t < j → i < tcF Y.1 t → br (t * 4 + i) = foeF Y.2.2.1 (Y.2.1 (t * 4 + i)) 16
def ySt (Y : YT) (br ch : Nat → Int32) : YT := (Y.1, Y.2.1, Y.2.2.1, br, Y.2.2.2.2.1, ch, Y.2.2.2.2.2.2)
def ySet (Y : YT) (br : Nat → Int32) : YT := (Y.1, Y.2.1, Y.2.2.1, br, (chF Y.1 Y.2.1 br 9 0 0 0 (Y.2.2.2.2.1, zf (-2) Y.2.2.2.2.2.1 9, 0)).1, (chF Y.1 Y.2.1 br 9 0 0 0 (Y.2.2.2.2.1, zf (-2) Y.2.2.2.2.2.1 9, 0)).2.1, (chF Y.1 Y.2.1 br 9 0 0 0 (Y.2.2.2.2.1, zf (-2) Y.2.2.2.2.2.1 9, 0)).2.2, Y.2.2.2.2.2.2.2.1, 0)
def tX9_settle : List q_I := [(0, .aload_n 0, 1, 0, 0), (1, .getfield 30, 3, 0, 0), (4, .ifCond .ne 4, 3, 0, 8), (7, .return_, 1, 0, 0), (8, .iconst 0, 1, 0, 0), (9, .istore_n 1, 1, 0, 0), (10, .iload_n 1, 1, 0, 0), (11, .bipush 9, 2, 9, 0), (13, .if_icmp .ge 57, 3, 0, 70), (16, .aload_n 0, 1, 0, 0), (17, .getfield 27, 3, 0, 0), (20, .iload_n 1, 1, 0, 0), (21, .bipush (-2), 2, (-2), 0), (23, .iastore, 1, 0, 0), (24, .iconst 0, 1, 0, 0), (25, .istore_n 2, 1, 0, 0), (26, .iload_n 2, 1, 0, 0), (27, .aload_n 0, 1, 0, 0), (28, .getfield 11, 3, 0, 0), (31, .iload_n 1, 1, 0, 0), (32, .iaload, 1, 0, 0), (33, .if_icmp .ge 31, 3, 0, 64), (36, .iload_n 1, 1, 0, 0), (37, .iconst 4, 1, 4, 0), (38, .imul, 1, 0, 0), (39, .iload_n 2, 1, 0, 0), (40, .iadd, 1, 0, 0), (41, .istore_n 3, 1, 0, 0), (42, .aload_n 0, 1, 0, 0), (43, .getfield 21, 3, 0, 0), (46, .iload_n 3, 1, 0, 0), (47, .aload_n 0, 1, 0, 0), (48, .aload_n 0, 1, 0, 0), (49, .getfield 15, 3, 0, 0), (52, .iload_n 3, 1, 0, 0), (53, .iaload, 1, 0, 0), (54, .invokevirtual 38, 3, 0, 0), (57, .iastore, 1, 0, 0), (58, .iinc 2 1, 3, 1, 0), (61, .goto (-35), 3, 0, 26), (64, .iinc 1 1, 3, 1, 0), (67, .goto (-57), 3, 0, 10), (70, .aload_n 0, 1, 0, 0), (71, .iconst 0, 1, 0, 0), (72, .putfield 42, 3, 0, 0), (75, .aload_n 0, 1, 0, 0), (76, .iconst 0, 1, 0, 0), (77, .iconst 0, 1, 0, 0), (78, .iconst 0, 1, 0, 0), (79, .invokevirtual 45, 3, 0, 0), (82, .aload_n 0, 1, 0, 0), (83, .iconst 0, 1, 0, 0), (84, .putfield 30, 3, 0, 0), (87, .return_, 1, 0, 0)]
theorem tX9_settle_ok : (tX9_settle.all (q_okI cX9_settle)) = true := by decide +kernel

abbrev fdX9_settle : List (Nat ⊕ (Nat × Nat)) := [.inl 0, .inr (0, 0), .inr (0, 1), .inr (0, 2), .inr (0, 3), .inr (0, 4), .inr (0, 5)]
def spX9_settle : q_P := fun a w K => ∃ (Y : YT), w = treatyW 0 Y ∧ a = [.ref 0] ∧ tOk Y ∧ (¬ Y.2.2.2.2.2.2.2.2 = 0 → ∀ br, brOk Y br 9 → K (.inl none) (treatyW 0 (ySet Y br))) ∧ (Y.2.2.2.2.2.2.2.2 = 0 → K (.inl none) (treatyW 0 Y))
abbrev csX9_settle : q_S := (1, 9, 12, 4, 0, 0, fdX9_settle, spX9_settle)
theorem coX9_38 (l : Launch) : q_CO l RX9 38 csX9_foesOf := ⟨yX9_foesOf, cX9_foesOf, (some .int), 1, ⟨by decide +kernel, by decide +kernel, by decide +kernel⟩, q_G_i 15 (by decide +kernel) rfl, Or.inl ⟨by decide, rfl, rfl, q_G_i 1099 (by decide +kernel) rfl, q_G_i 1101 (by decide +kernel) rfl, q_G_s (n := 9) 42 (by decide +kernel), Or.inl ⟨q_G_i 1102 (by decide +kernel) rfl, ctX9_foesOf l⟩⟩⟩
theorem coX9_45 (l : Launch) : q_CO l RX9 45 csX9_choose := ⟨yX9_choose, cX9_choose, none, 3, ⟨by decide +kernel, by decide +kernel, by decide +kernel⟩, q_G_i 15 (by decide +kernel) rfl, Or.inl ⟨by decide, rfl, rfl, q_G_i 1103 (by decide +kernel) rfl, q_G_i 1105 (by decide +kernel) rfl, q_G_s (n := 9) 43 (by decide +kernel), Or.inl ⟨q_G_i 1106 (by decide +kernel) rfl, ctX9_choose l⟩⟩⟩
def EX9_settle : q_E := (tX9_settle, [(10, [0, 1]), (26, [0, 1, 2])], 4, flX9, [(38, csX9_foesOf), (45, csX9_choose)], [], [], [], [], [], 12, 0, 0, none, [], [], 0, 0)
theorem okX9_settle (l : Launch) : q_Eok l RX9 cX9_settle EX9_settle := ⟨tX9_settle_ok, flX9_ok, List.forall_mem_cons.mpr ⟨(coX9_38 l), List.forall_mem_cons.mpr ⟨(coX9_45 l), q_nil⟩⟩, q_nil, q_nil, q_nil, q_nil, q_nil, (fun h => absurd h (by decide))⟩
set_option maxRecDepth 100000 in
set_option maxHeartbeats 4000000 in
theorem ctX9_settle (l : Launch) : q_CT l yX9_settle (.code yX9_settle cX9_settle 4 none) 12 0 0 spX9_settle := by
  refine q_ct_of EX9_settle (by decide +kernel) (okX9_settle l) rfl rfl rfl rfl rfl q_nil (fun ci h => by cases h) rfl ?_
  intro a w K h
  obtain ⟨Y, rfl, rfl, ho, hK1, hK0⟩ := h
  refine ⟨Nat.le_of_ble_eq_true rfl, fun C hC => hC _ _ _ _ _ _ ?_⟩
  refine And.intro (fun cs => ?_) (fun cs => hK0 cs)
  have hK1 := hK1 cs
  have outer : ∀ k t br, t + k = 9 → brOk Y br t → C 10 [(0, .ref 0), (1, .int (nI t))] [] (treatyW 0 (ySt Y br (zf (-2) Y.2.2.2.2.2.1 t))) 0 0 := by
    intro k
    induction k with
    | zero =>
      intro t br ht hb
      have ht : t = 9 := by omega
      subst ht
      refine hC _ _ _ _ _ _ ?_
      refine And.intro (fun c1 => ?_) (fun c1 => absurd (Int32.le_refl _) c1)
      refine ⟨(Y.1, Y.2.1, Y.2.2.1, br, Y.2.2.2.2.1, zf (-2) Y.2.2.2.2.2.1 9, 0, Y.2.2.2.2.2.2.2.1, Y.2.2.2.2.2.2.2.2), 0, 0, rfl, rfl, ho, by omega, ?_⟩
      exact ⟨rfl, hK1 br hb⟩
    | succ k ih =>
      intro t br ht hb
      have hv : vp_in (nI t) 9 := vp_in_nI (by omega) (by omega)
      have hc : (nI t).toNatClampNeg = t := nI_clamp (by omega)
      obtain ⟨h3, h4⟩ := ho t (by omega)
      refine hC _ _ _ _ _ _ ?_
      refine And.intro (fun c1 => absurd c1 (nI_ge (b := 9) (by omega) (by omega))) (fun c1 => ⟨hv, ?_⟩)
      have inner : ∀ k2 i br, i + k2 = tcF Y.1 t → brOk Y br t → (∀ q, q < i → br (t * 4 + q) = foeF Y.2.2.1 (Y.2.1 (t * 4 + q)) 16) → C 26 [(0, .ref 0), (1, .int (nI t)), (2, .int (nI i))] [] (treatyW 0 (ySt Y br (zf (-2) Y.2.2.2.2.2.1 (t + 1)))) 0 0 := by
        intro k2
        induction k2 with
        | zero =>
          intro i br hi hb hq
          refine hC _ _ _ _ _ _ ?_
          refine ⟨hv, And.intro (fun c2 => ?_) (fun c2 => absurd (by show Y.1 (nI t).toNatClampNeg ≤ nI i; rw [hc, h3]; exact nI_le (by omega) (by omega)) c2)⟩
          have h9 := ih (t + 1) br (by omega) (fun r q hr hq2 => by
            by_cases e : r = t
            · subst e; exact hq q (by omega)
            · exact hb r q (by omega) hq2)
          rw [← nI_1 t] at h9
          exact h9
        | succ k2 ih2 =>
          intro i br hi hb hq
          have e2 : nI t * 4 + nI i = nI (t * 4 + i) := by rw [nI_mul4, nI_add]
          have hc2 : (nI t * 4 + nI i).toNatClampNeg = t * 4 + i := by rw [e2]; exact nI_clamp (by omega)
          have hv2 : vp_in (nI t * 4 + nI i) 36 := by rw [e2]; exact vp_in_nI (by omega) (by omega)
          refine hC _ _ _ _ _ _ ?_
          refine ⟨hv, And.intro (fun c2 => absurd (show Y.1 (nI t).toNatClampNeg ≤ nI i from c2) (by rw [hc, h3]; exact nI_ge (by omega) (by omega))) (fun c2 => ?_)⟩
          refine ⟨hv2, ySt Y br (zf (-2) Y.2.2.2.2.2.1 (t + 1)), _, rfl, rfl, hv2, ?_⟩
          have h9 := ih2 (i + 1) (upd br (t * 4 + i) (foeF Y.2.2.1 (Y.2.1 (t * 4 + i)) 16)) (by omega) (fun r q hr hq2 => by
            have := (ho r (by omega)).2
            rw [pk_un (by omega)]; exact hb r q hr hq2) (fun q hq2 => by
            by_cases e : q = i
            · subst e; exact pk_us
            · rw [pk_un (by omega)]; exact hq q (by omega))
          rw [← nI_1 i, ← hc2] at h9
          exact h9
      have h9 := inner (tcF Y.1 t) 0 br (by omega) hb (fun q hq => absurd hq (Nat.not_lt_zero q))
      rw [← zf_s] at h9
      have e1 : ∀ (f : Nat → Int32) (z : Int32), upd f t z = upd f (nI t).toNatClampNeg z := fun f z => by rw [hc]
      rw [e1] at h9
      exact h9
  have h9 := outer 9 0 Y.2.2.2.1 rfl (fun r q hr => absurd hr (Nat.not_lt_zero r))
  rw [zf_0] at h9
  exact h9
