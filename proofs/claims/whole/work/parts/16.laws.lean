/-! ===== pure words ===== -/
def bI (b : Bool) : Int32 := match b with
  | true => 1
  | false => 0
theorem bI_0 {b : Bool} : bI b = 0 ↔ b = false := by cases b <;> simp [bI]
theorem bI_n0 {b : Bool} : ¬ bI b = 0 ↔ b = true := by cases b <;> simp [bI]
theorem bI_nar (b : Bool) : narrow .boolean (.int (bI b)) = .int (bI b) := by cases b <;> rfl
theorem bI_vnar (b : Bool) : vp_nar .boolean (bI b) = bI b := by cases b <;> rfl
theorem bI_t {c : Prop} [Decidable c] (h : c) : bI (decide c) = 1 := by rw [decide_eq_true h]; rfl
theorem bI_f {c : Prop} [Decidable c] (h : ¬ c) : bI (decide c) = 0 := by rw [decide_eq_false h]; rfl
theorem nI_dec (i : Nat) : nI (i + 1) + (-1) = nI i := pk_m1 i
theorem nI_nneg {i : Nat} (h : i < 2 ^ 31) : ¬ nI i < 0 := nI_pos h
theorem nI_m1 : nI 0 - 1 = -1 := by decide
def rulO (P : Nat → Bool) : Nat → Option Nat
  | 0 => none
  | i + 1 => if P i then some i else rulO P i
def oI (r : Option Nat) : Int32 := match r with
  | none => -1
  | some i => nI i
theorem rulO_lt {P : Nat → Bool} : ∀ {n i : Nat}, rulO P n = some i → i < n
  | 0, i, h => by simp [rulO] at h
  | n + 1, i, h => by
    rw [rulO] at h
    split at h
    · cases h; omega
    · have := rulO_lt h; omega
/-- land, kind, office, accepting, since, until, known, count -/
abbrev LT : Type := (Nat → Int32) × (Nat → Int32) × (Nat → Int32) × (Nat → Int32) × (Nat → Int32) × (Nat → Int32) × (Nat → Int32) × Nat
abbrev L_n (L : LT) : Nat := L.2.2.2.2.2.2.2
def lawsW (o : Nat) (L : LT) : List q_C := [.inr (3, [.ref (o + 1), .ref (o + 2), .ref (o + 3), .ref (o + 4), .ref (o + 5), .ref (o + 6), .ref (o + 7), .int (nI L.2.2.2.2.2.2.2)]), .inl (1, 24, .inl L.1), .inl (1, 24, .inl L.2.1), .inl (1, 24, .inl L.2.2.1), .inl (3, 24, .inl L.2.2.2.1), .inl (1, 24, .inl L.2.2.2.2.1), .inl (1, 24, .inl L.2.2.2.2.2.1), .inl (1, 24, .inl L.2.2.2.2.2.2.1)]
def rulP (L : LT) (a b c d e : Int32) (i : Nat) : Bool := decide (L.1 i = a) && (decide (L.2.1 i = b) && (decide (L.2.2.1 i = c) && (decide (L.2.2.2.2.1 i ≤ d) && (decide (d ≤ L.2.2.2.2.2.1 i) && decide (L.2.2.2.2.2.2.1 i ≤ e)))))
def ruling (L : LT) (a b c d e : Int32) : Option Nat := rulO (rulP L a b c d e) (L_n L)
def saysT (L : LT) (r : Option Nat) : Bool := match r with
  | none => false
  | some i => decide (¬ L.2.2.2.1 i = 0)
def accOn (L : LT) (day land kind office : Int32) : Bool := saysT L (ruling L land kind office day day)
def soon (s c b : Int32) : Int32 := if b < c ∧ c < s then c else s
def chgF (L : LT) (day land kind : Int32) : Nat → Int32
  | 0 => 1000000
  | i + 1 => if L.1 i = land ∧ L.2.1 i = kind then soon (soon (soon (chgF L day land kind i) (L.2.2.2.2.1 i) day) (L.2.2.2.2.2.1 i + 1) day) (L.2.2.2.2.2.2.1 i) day else chgF L day land kind i

def tX3_hasRoom : List q_I := [(0, .aload_n 0, 1, 0, 0), (1, .getfield 34, 3, 0, 0), (4, .bipush 24, 2, 24, 0), (6, .if_icmp .ge 7, 3, 0, 13), (9, .iconst 1, 1, 1, 0), (10, .goto 4, 3, 0, 14), (13, .iconst 0, 1, 0, 0), (14, .ireturn, 1, 0, 0)]
theorem tX3_hasRoom_ok : (tX3_hasRoom.all (q_okI cX3_hasRoom)) = true := by decide +kernel

abbrev fdX3_hasRoom : List (Nat ⊕ (Nat × Nat)) := [.inl 0, .inr (0, 0), .inr (0, 1), .inr (0, 2), .inr (0, 3), .inr (0, 4), .inr (0, 5), .inr (0, 6)]
def spX3_hasRoom : q_P := fun a w K => ∃ L : LT, w = lawsW 0 L ∧ a = [.ref 0] ∧ L_n L ≤ 24 ∧ K (.inl (some (.int (bI (decide (L_n L < 24)))))) (lawsW 0 L)
abbrev csX3_hasRoom : q_S := (1, 3, 0, 1, 0, 0, fdX3_hasRoom, spX3_hasRoom)
def EX3_hasRoom : q_E := (tX3_hasRoom, [], 1, flX3, [], [], [], [], [], [], 0, 0, 0, (some .boolean), [], [], 0, 0)
theorem okX3_hasRoom (l : Launch) : q_Eok l RX3 cX3_hasRoom EX3_hasRoom := ⟨tX3_hasRoom_ok, flX3_ok, q_nil, q_nil, q_nil, q_nil, q_nil, q_nil, (fun h => absurd h (by decide))⟩
set_option maxRecDepth 100000 in
set_option maxHeartbeats 4000000 in
theorem ctX3_hasRoom (l : Launch) : q_CT l yX3_hasRoom (.code yX3_hasRoom cX3_hasRoom 1 (some .boolean)) 0 0 0 spX3_hasRoom := by
  refine q_ct_of EX3_hasRoom (by decide +kernel) (okX3_hasRoom l) rfl rfl rfl rfl rfl q_nil (fun ci h => by cases h) rfl ?_
  intro a w K h
  obtain ⟨L, rfl, rfl, hn, hK⟩ := h
  refine ⟨Nat.le_of_ble_eq_true rfl, fun C hC => hC _ _ _ _ _ _ ?_⟩
  refine And.intro (fun c => ⟨rfl, ?_⟩) (fun c => ⟨rfl, ?_⟩)
  · rw [bI_f (fun z => nI_ge (a := L_n L) (b := 24) z (by omega) c)] at hK; exact hK
  · rw [bI_t (by rcases Nat.lt_or_ge (L_n L) 24 with z | z; exact z; exact absurd (nI_le (b := L_n L) z (by omega)) c)] at hK; exact hK
def tX3_add : List q_I := [(0, .aload_n 0, 1, 0, 0), (1, .getfield 11, 3, 0, 0), (4, .aload_n 0, 1, 0, 0), (5, .getfield 34, 3, 0, 0), (8, .iload_n 1, 1, 0, 0), (9, .iastore, 1, 0, 0), (10, .aload_n 0, 1, 0, 0), (11, .getfield 15, 3, 0, 0), (14, .aload_n 0, 1, 0, 0), (15, .getfield 34, 3, 0, 0), (18, .iload_n 2, 1, 0, 0), (19, .iastore, 1, 0, 0), (20, .aload_n 0, 1, 0, 0), (21, .getfield 18, 3, 0, 0), (24, .aload_n 0, 1, 0, 0), (25, .getfield 34, 3, 0, 0), (28, .iload_n 3, 1, 0, 0), (29, .iastore, 1, 0, 0), (30, .aload_n 0, 1, 0, 0), (31, .getfield 21, 3, 0, 0), (34, .aload_n 0, 1, 0, 0), (35, .getfield 34, 3, 0, 0), (38, .iload 4, 2, 0, 0), (40, .bastore, 1, 0, 0), (41, .aload_n 0, 1, 0, 0), (42, .getfield 25, 3, 0, 0), (45, .aload_n 0, 1, 0, 0), (46, .getfield 34, 3, 0, 0), (49, .iload 5, 2, 0, 0), (51, .iastore, 1, 0, 0), (52, .aload_n 0, 1, 0, 0), (53, .getfield 28, 3, 0, 0), (56, .aload_n 0, 1, 0, 0), (57, .getfield 34, 3, 0, 0), (60, .iload 6, 2, 0, 0), (62, .iastore, 1, 0, 0), (63, .aload_n 0, 1, 0, 0), (64, .getfield 31, 3, 0, 0), (67, .aload_n 0, 1, 0, 0), (68, .getfield 34, 3, 0, 0), (71, .iload 7, 2, 0, 0), (73, .iastore, 1, 0, 0), (74, .aload_n 0, 1, 0, 0), (75, .dup, 1, 0, 0), (76, .getfield 34, 3, 0, 0), (79, .iconst 1, 1, 1, 0), (80, .iadd, 1, 0, 0), (81, .putfield 34, 3, 0, 0), (84, .return_, 1, 0, 0)]
theorem tX3_add_ok : (tX3_add.all (q_okI cX3_add)) = true := by decide +kernel

abbrev fdX3_add : List (Nat ⊕ (Nat × Nat)) := [.inl 0, .inr (0, 0), .inr (0, 1), .inr (0, 2), .inr (0, 3), .inr (0, 4), .inr (0, 5), .inr (0, 6)]
def lawAdd (L : LT) (a b c : Int32) (t : Bool) (s u k : Int32) : LT := (upd L.1 (L_n L) a, upd L.2.1 (L_n L) b, upd L.2.2.1 (L_n L) c, upd L.2.2.2.1 (L_n L) (bI t), upd L.2.2.2.2.1 (L_n L) s, upd L.2.2.2.2.2.1 (L_n L) u, upd L.2.2.2.2.2.2.1 (L_n L) k, L_n L + 1)
def spX3_add : q_P := fun a w K => ∃ (L : LT) (x y v : Int32) (t : Bool) (s u k : Int32), w = lawsW 0 L ∧ a = [.ref 0, .int x, .int y, .int v, .int (bI t), .int s, .int u, .int k] ∧ L_n L < 24 ∧ K (.inl none) (lawsW 0 (lawAdd L x y v t s u k))
abbrev csX3_add : q_S := (8, 3, 0, 8, 0, 0, fdX3_add, spX3_add)
def EX3_add : q_E := (tX3_add, [], 8, flX3, [], [], [], [], [], [], 0, 0, 0, none, [], [], 0, 0)
theorem okX3_add (l : Launch) : q_Eok l RX3 cX3_add EX3_add := ⟨tX3_add_ok, flX3_ok, q_nil, q_nil, q_nil, q_nil, q_nil, q_nil, (fun h => absurd h (by decide))⟩
set_option maxRecDepth 100000 in
set_option maxHeartbeats 4000000 in
theorem ctX3_add (l : Launch) : q_CT l yX3_add (.code yX3_add cX3_add 8 none) 0 0 0 spX3_add := by
  refine q_ct_of EX3_add (by decide +kernel) (okX3_add l) rfl rfl rfl rfl rfl q_nil (fun ci h => by cases h) rfl ?_
  intro a w K h
  obtain ⟨L, x, y, v, t, s, u, k, rfl, rfl, hn, hK⟩ := h
  refine ⟨Nat.le_refl _, fun C hC => hC _ _ _ _ _ _ ?_⟩
  have hv : vp_in (nI (L_n L)) 24 := vp_in_nI hn (by omega)
  have hc : (nI (L_n L)).toNatClampNeg = L_n L := nI_clamp (by omega)
  refine ⟨hv, hv, hv, hv, hv, hv, hv, ?_⟩
  show K (.inl none) _
  simp only [L_n] at hc
  simp only [hc, bI_vnar, nI_1]
  exact hK
def tX3_ruling : List q_I := [(0, .aload_n 0, 1, 0, 0), (1, .getfield 34, 3, 0, 0), (4, .iconst 1, 1, 1, 0), (5, .isub, 1, 0, 0), (6, .istore 6, 2, 0, 0), (8, .iload 6, 2, 0, 0), (10, .ifCond .lt 81, 3, 0, 91), (13, .aload_n 0, 1, 0, 0), (14, .getfield 11, 3, 0, 0), (17, .iload 6, 2, 0, 0), (19, .iaload, 1, 0, 0), (20, .iload_n 1, 1, 0, 0), (21, .if_icmp .ne 64, 3, 0, 85), (24, .aload_n 0, 1, 0, 0), (25, .getfield 15, 3, 0, 0), (28, .iload 6, 2, 0, 0), (30, .iaload, 1, 0, 0), (31, .iload_n 2, 1, 0, 0), (32, .if_icmp .ne 53, 3, 0, 85), (35, .aload_n 0, 1, 0, 0), (36, .getfield 18, 3, 0, 0), (39, .iload 6, 2, 0, 0), (41, .iaload, 1, 0, 0), (42, .iload_n 3, 1, 0, 0), (43, .if_icmp .ne 42, 3, 0, 85), (46, .aload_n 0, 1, 0, 0), (47, .getfield 25, 3, 0, 0), (50, .iload 6, 2, 0, 0), (52, .iaload, 1, 0, 0), (53, .iload 4, 2, 0, 0), (55, .if_icmp .gt 30, 3, 0, 85), (58, .iload 4, 2, 0, 0), (60, .aload_n 0, 1, 0, 0), (61, .getfield 28, 3, 0, 0), (64, .iload 6, 2, 0, 0), (66, .iaload, 1, 0, 0), (67, .if_icmp .gt 18, 3, 0, 85), (70, .aload_n 0, 1, 0, 0), (71, .getfield 31, 3, 0, 0), (74, .iload 6, 2, 0, 0), (76, .iaload, 1, 0, 0), (77, .iload 5, 2, 0, 0), (79, .if_icmp .gt 6, 3, 0, 85), (82, .iload 6, 2, 0, 0), (84, .ireturn, 1, 0, 0), (85, .iinc 6 (-1), 3, (-1), 0), (88, .goto (-80), 3, 0, 8), (91, .iconst (-1), 1, (-1), 0), (92, .ireturn, 1, 0, 0)]
theorem tX3_ruling_ok : (tX3_ruling.all (q_okI cX3_ruling)) = true := by decide +kernel

abbrev fdX3_ruling : List (Nat ⊕ (Nat × Nat)) := [.inl 0, .inr (0, 0), .inr (0, 1), .inr (0, 2), .inr (0, 3), .inr (0, 4), .inr (0, 5), .inr (0, 6)]
def spX3_ruling : q_P := fun a w K => ∃ (L : LT) (x1 x2 x3 x4 x5 : Int32), w = lawsW 0 L ∧ a = [.ref 0, .int x1, .int x2, .int x3, .int x4, .int x5] ∧ L_n L ≤ 24 ∧ K (.inl (some (.int (oI (ruling L x1 x2 x3 x4 x5))))) (lawsW 0 L)
abbrev csX3_ruling : q_S := (6, 3, 0, 7, 0, 0, fdX3_ruling, spX3_ruling)
def EX3_ruling : q_E := (tX3_ruling, [(8, [0, 1, 2, 3, 4, 5, 6])], 7, flX3, [], [], [], [], [], [], 0, 0, 0, (some .int), [], [], 0, 0)
theorem okX3_ruling (l : Launch) : q_Eok l RX3 cX3_ruling EX3_ruling := ⟨tX3_ruling_ok, flX3_ok, q_nil, q_nil, q_nil, q_nil, q_nil, q_nil, (fun h => absurd h (by decide))⟩
set_option maxRecDepth 100000 in
set_option maxHeartbeats 4000000 in
theorem ctX3_ruling (l : Launch) : q_CT l yX3_ruling (.code yX3_ruling cX3_ruling 7 (some .int)) 0 0 0 spX3_ruling := by
  refine q_ct_of EX3_ruling (by decide +kernel) (okX3_ruling l) rfl rfl rfl rfl rfl q_nil (fun ci h => by cases h) rfl ?_
  intro a w K h
  obtain ⟨L, x1, x2, x3, x4, x5, rfl, rfl, hn, hK⟩ := h
  refine ⟨Nat.le_of_ble_eq_true rfl, fun C hC => ?_⟩
  have loop : ∀ i, i ≤ L_n L → ruling L x1 x2 x3 x4 x5 = rulO (rulP L x1 x2 x3 x4 x5) i → C 8 [(0, .ref 0), (1, .int x1), (2, .int x2), (3, .int x3), (4, .int x4), (5, .int x5), (6, .int (nI i - 1))] [] (lawsW 0 L) 0 0 := by
    intro i
    induction i with
    | zero =>
      intro _ h
      refine hC _ _ _ _ _ _ ?_
      refine And.intro (fun c1 => ?_) (fun c1 => absurd (by decide) c1)
      rw [h] at hK; exact hK
    | succ i ih =>
      intro hi h
      have hv : vp_in (nI i) 24 := vp_in_nI (by omega) (by omega)
      have hcl : (nI i).toNatClampNeg = i := nI_clamp (by omega)
      have next : rulP L x1 x2 x3 x4 x5 i = false → C 8 [(0, .ref 0), (1, .int x1), (2, .int x2), (3, .int x3), (4, .int x4), (5, .int x5), (6, .int (nI i + (-1)))] [] (lawsW 0 L) 0 0 := by
        intro hP
        rw [← Int32.sub_eq_add_neg]
        exact ih (by omega) (by rw [h, rulO, hP]; rfl)
      rw [nI_pred]
      refine hC _ _ _ _ _ _ ?_
      refine And.intro (fun c1 => absurd c1 (nI_pos (by omega))) (fun c1 => ?_)
      refine And.intro hv (And.intro (fun c2 => next ?_) (fun c2 => ?_))
      · rw [hcl] at c2; simp [rulP, c2]
      refine And.intro hv (And.intro (fun c3 => next ?_) (fun c3 => ?_))
      · rw [hcl] at c3; simp [rulP, c3]
      refine And.intro hv (And.intro (fun c4 => next ?_) (fun c4 => ?_))
      · rw [hcl] at c4; simp [rulP, c4]
      refine And.intro hv (And.intro (fun c5 => next ?_) (fun c5 => ?_))
      · rw [hcl] at c5; simp only [rulP, decide_eq_false (Int32.not_le.mpr c5), Bool.false_and, Bool.and_false]
      refine And.intro hv (And.intro (fun c6 => next ?_) (fun c6 => ?_))
      · rw [hcl] at c6; simp only [rulP, decide_eq_false (Int32.not_le.mpr c6), Bool.false_and, Bool.and_false]
      refine And.intro hv (And.intro (fun c7 => next ?_) (fun c7 => ?_))
      · rw [hcl] at c7; simp only [rulP, decide_eq_false (Int32.not_le.mpr c7), Bool.false_and, Bool.and_false]
      · rw [hcl] at c2 c3 c4 c5 c6 c7
        have hP : rulP L x1 x2 x3 x4 x5 i = true := by simp only [rulP, decide_eq_true c2, decide_eq_true c3, decide_eq_true c4, decide_eq_true (Int32.not_lt.mp c5), decide_eq_true (Int32.not_lt.mp c6), decide_eq_true (Int32.not_lt.mp c7), Bool.and_self]
        rw [h, rulO, if_pos hP] at hK
        exact hK
  exact hC _ _ _ _ _ _ (loop (L_n L) (Nat.le_refl _) rfl)
def tX3_saysTakes : List q_I := [(0, .iload_n 1, 1, 0, 0), (1, .ifCond .lt 24, 3, 0, 25), (4, .iload_n 1, 1, 0, 0), (5, .aload_n 0, 1, 0, 0), (6, .getfield 34, 3, 0, 0), (9, .if_icmp .ge 16, 3, 0, 25), (12, .aload_n 0, 1, 0, 0), (13, .getfield 21, 3, 0, 0), (16, .iload_n 1, 1, 0, 0), (17, .baload, 1, 0, 0), (18, .ifCond .eq 7, 3, 0, 25), (21, .iconst 1, 1, 1, 0), (22, .goto 4, 3, 0, 26), (25, .iconst 0, 1, 0, 0), (26, .ireturn, 1, 0, 0)]
theorem tX3_saysTakes_ok : (tX3_saysTakes.all (q_okI cX3_saysTakes)) = true := by decide +kernel

abbrev fdX3_saysTakes : List (Nat ⊕ (Nat × Nat)) := [.inl 0, .inr (0, 0), .inr (0, 1), .inr (0, 2), .inr (0, 3), .inr (0, 4), .inr (0, 5), .inr (0, 6)]
def spX3_saysTakes : q_P := fun a w K => ∃ (L : LT) (r : Option Nat), w = lawsW 0 L ∧ a = [.ref 0, .int (oI r)] ∧ L_n L ≤ 24 ∧ (∀ i, r = some i → i < L_n L) ∧ K (.inl (some (.int (bI (saysT L r))))) (lawsW 0 L)
abbrev csX3_saysTakes : q_S := (2, 3, 0, 2, 0, 0, fdX3_saysTakes, spX3_saysTakes)
def EX3_saysTakes : q_E := (tX3_saysTakes, [], 2, flX3, [], [], [], [], [], [], 0, 0, 0, (some .boolean), [], [], 0, 0)
theorem okX3_saysTakes (l : Launch) : q_Eok l RX3 cX3_saysTakes EX3_saysTakes := ⟨tX3_saysTakes_ok, flX3_ok, q_nil, q_nil, q_nil, q_nil, q_nil, q_nil, (fun h => absurd h (by decide))⟩
set_option maxRecDepth 100000 in
set_option maxHeartbeats 4000000 in
theorem ctX3_saysTakes (l : Launch) : q_CT l yX3_saysTakes (.code yX3_saysTakes cX3_saysTakes 2 (some .boolean)) 0 0 0 spX3_saysTakes := by
  refine q_ct_of EX3_saysTakes (by decide +kernel) (okX3_saysTakes l) rfl rfl rfl rfl rfl q_nil (fun ci h => by cases h) rfl ?_
  intro a w K h
  obtain ⟨L, r, rfl, rfl, hn, hr, hK⟩ := h
  dsimp only [L_n] at hn hr
  refine ⟨Nat.le_of_ble_eq_true rfl, fun C hC => hC _ _ _ _ _ _ ?_⟩
  cases r with
  | none =>
    refine And.intro (fun c => ⟨rfl, hK⟩) (fun c => absurd (by decide) c)
  | some i =>
    have hi := hr i rfl
    refine And.intro (fun c => absurd c (nI_pos (by omega))) (fun c => ?_)
    refine And.intro (fun c2 => absurd c2 (nI_ge hi (by omega))) (fun c2 => ?_)
    refine And.intro (vp_in_nI (by omega) (by omega)) (And.intro (fun c3 => ⟨rfl, ?_⟩) (fun c3 => ⟨rfl, ?_⟩))
    · have c3 : L.2.2.2.1 (nI i).toNatClampNeg = 0 := c3
      rw [nI_clamp (by omega)] at c3
      rw [saysT, bI_f (fun z => z c3)] at hK; exact hK
    · have c3 : ¬ L.2.2.2.1 (nI i).toNatClampNeg = 0 := c3
      rw [nI_clamp (by omega)] at c3
      rw [saysT, bI_t c3] at hK; exact hK
def tX3_acceptOn : List q_I := [(0, .aload_n 0, 1, 0, 0), (1, .aload_n 0, 1, 0, 0), (2, .iload_n 2, 1, 0, 0), (3, .iload_n 3, 1, 0, 0), (4, .iload 4, 2, 0, 0), (6, .iload_n 1, 1, 0, 0), (7, .iload_n 1, 1, 0, 0), (8, .invokevirtual 38, 3, 0, 0), (11, .invokevirtual 42, 3, 0, 0), (14, .ireturn, 1, 0, 0)]
theorem tX3_acceptOn_ok : (tX3_acceptOn.all (q_okI cX3_acceptOn)) = true := by decide +kernel

abbrev fdX3_acceptOn : List (Nat ⊕ (Nat × Nat)) := [.inl 0, .inr (0, 0), .inr (0, 1), .inr (0, 2), .inr (0, 3), .inr (0, 4), .inr (0, 5), .inr (0, 6)]
def spX3_acceptOn : q_P := fun a w K => ∃ (L : LT) (x1 x2 x3 x4 : Int32), w = lawsW 0 L ∧ a = [.ref 0, .int x1, .int x2, .int x3, .int x4] ∧ L_n L ≤ 24 ∧ K (.inl (some (.int (bI (accOn L x1 x2 x3 x4))))) (lawsW 0 L)
abbrev csX3_acceptOn : q_S := (5, 3, 1, 5, 0, 0, fdX3_acceptOn, spX3_acceptOn)
theorem coX3_38 (l : Launch) : q_CO l RX3 38 csX3_ruling := ⟨yX3_ruling, cX3_ruling, (some .int), 5, ⟨by decide +kernel, by decide +kernel, by decide +kernel⟩, q_G_i 4 (by decide +kernel) rfl, Or.inl ⟨by decide, rfl, rfl, q_G_i 840 (by decide +kernel) rfl, q_G_i 761 (by decide +kernel) rfl, q_G_i 762 (by decide +kernel) rfl, Or.inl ⟨q_G_i 763 (by decide +kernel) rfl, ctX3_ruling l⟩⟩⟩
theorem coX3_42 (l : Launch) : q_CO l RX3 42 csX3_saysTakes := ⟨yX3_saysTakes, cX3_saysTakes, (some .boolean), 1, ⟨by decide +kernel, by decide +kernel, by decide +kernel⟩, q_G_i 4 (by decide +kernel) rfl, Or.inl ⟨by decide, rfl, rfl, q_G_i 841 (by decide +kernel) rfl, q_G_i 765 (by decide +kernel) rfl, q_G_i 766 (by decide +kernel) rfl, Or.inl ⟨q_G_i 767 (by decide +kernel) rfl, ctX3_saysTakes l⟩⟩⟩
def EX3_acceptOn : q_E := (tX3_acceptOn, [], 5, flX3, [(38, csX3_ruling), (42, csX3_saysTakes)], [], [], [], [], [], 1, 0, 0, (some .boolean), [], [], 0, 0)
theorem okX3_acceptOn (l : Launch) : q_Eok l RX3 cX3_acceptOn EX3_acceptOn := ⟨tX3_acceptOn_ok, flX3_ok, List.forall_mem_cons.mpr ⟨(coX3_38 l), List.forall_mem_cons.mpr ⟨(coX3_42 l), q_nil⟩⟩, q_nil, q_nil, q_nil, q_nil, q_nil, (fun h => absurd h (by decide))⟩
set_option maxRecDepth 100000 in
set_option maxHeartbeats 4000000 in
theorem ctX3_acceptOn (l : Launch) : q_CT l yX3_acceptOn (.code yX3_acceptOn cX3_acceptOn 5 (some .boolean)) 1 0 0 spX3_acceptOn := by
  refine q_ct_of EX3_acceptOn (by decide +kernel) (okX3_acceptOn l) rfl rfl rfl rfl rfl q_nil (fun ci h => by cases h) rfl ?_
  intro a w K h
  obtain ⟨L, x1, x2, x3, x4, rfl, rfl, hn, hK⟩ := h
  refine ⟨Nat.le_of_ble_eq_true rfl, fun C hC => hC _ _ _ _ _ _ ?_⟩
  refine ⟨L, _, _, _, _, _, rfl, rfl, hn, ?_⟩
  refine ⟨L, _, rfl, rfl, hn, fun i hi => rulO_lt hi, ?_⟩
  exact ⟨bI_nar _, hK⟩
def tX3_sooner : List q_I := [(0, .iload_n 1, 1, 0, 0), (1, .iload_n 2, 1, 0, 0), (2, .if_icmp .le 12, 3, 0, 14), (5, .iload_n 1, 1, 0, 0), (6, .iload_n 0, 1, 0, 0), (7, .if_icmp .ge 7, 3, 0, 14), (10, .iload_n 1, 1, 0, 0), (11, .goto 4, 3, 0, 15), (14, .iload_n 0, 1, 0, 0), (15, .ireturn, 1, 0, 0)]
theorem tX3_sooner_ok : (tX3_sooner.all (q_okI cX3_sooner)) = true := by decide +kernel

abbrev fdX3_sooner : List (Nat ⊕ (Nat × Nat)) := []
def spX3_sooner : q_P := fun a w K => ∃ (x y z : Int32), w = [] ∧ a = [.int x, .int y, .int z] ∧ K (.inl (some (.int (soon x y z)))) []
abbrev csX3_sooner : q_S := (3, 99, 0, 3, 0, 0, fdX3_sooner, spX3_sooner)
def EX3_sooner : q_E := (tX3_sooner, [], 3, flX3, [], [], [], [], [], [], 0, 0, 0, (some .int), [], [], 0, 0)
theorem okX3_sooner (l : Launch) : q_Eok l RX3 cX3_sooner EX3_sooner := ⟨tX3_sooner_ok, flX3_ok, q_nil, q_nil, q_nil, q_nil, q_nil, q_nil, (fun h => absurd h (by decide))⟩
set_option maxRecDepth 100000 in
set_option maxHeartbeats 4000000 in
theorem ctX3_sooner (l : Launch) : q_CT l yX3_sooner (.code yX3_sooner cX3_sooner 3 (some .int)) 0 0 0 spX3_sooner := by
  refine q_ct_of EX3_sooner (by decide +kernel) (okX3_sooner l) rfl rfl rfl rfl rfl q_nil (fun ci h => by cases h) rfl ?_
  intro a w K h
  obtain ⟨x, y, z, rfl, rfl, hK⟩ := h
  refine ⟨Nat.le_of_ble_eq_true rfl, fun C hC => hC _ _ _ _ _ _ ?_⟩
  refine And.intro (fun c => ?_) (fun c => And.intro (fun c2 => ?_) (fun c2 => ?_))
  · rw [soon, if_neg (fun h => Int32.not_le.mpr h.1 c)] at hK; exact hK
  · rw [soon, if_neg (fun h => Int32.not_le.mpr h.2 c2)] at hK; exact hK
  · rw [soon, if_pos ⟨Int32.not_le.mp c, Int32.not_le.mp c2⟩] at hK; exact hK
def tX3_changeBehind : List q_I := [(0, .ldc 46, 2, 0, 0), (2, .istore 4, 2, 0, 0), (4, .iconst 0, 1, 0, 0), (5, .istore 5, 2, 0, 0), (7, .iload 5, 2, 0, 0), (9, .aload_n 0, 1, 0, 0), (10, .getfield 34, 3, 0, 0), (13, .if_icmp .ge 78, 3, 0, 91), (16, .aload_n 0, 1, 0, 0), (17, .getfield 11, 3, 0, 0), (20, .iload 5, 2, 0, 0), (22, .iaload, 1, 0, 0), (23, .iload_n 2, 1, 0, 0), (24, .if_icmp .ne 61, 3, 0, 85), (27, .aload_n 0, 1, 0, 0), (28, .getfield 15, 3, 0, 0), (31, .iload 5, 2, 0, 0), (33, .iaload, 1, 0, 0), (34, .iload_n 3, 1, 0, 0), (35, .if_icmp .ne 50, 3, 0, 85), (38, .iload 4, 2, 0, 0), (40, .aload_n 0, 1, 0, 0), (41, .getfield 25, 3, 0, 0), (44, .iload 5, 2, 0, 0), (46, .iaload, 1, 0, 0), (47, .iload_n 1, 1, 0, 0), (48, .invokestatic 47, 3, 0, 0), (51, .istore 4, 2, 0, 0), (53, .iload 4, 2, 0, 0), (55, .aload_n 0, 1, 0, 0), (56, .getfield 28, 3, 0, 0), (59, .iload 5, 2, 0, 0), (61, .iaload, 1, 0, 0), (62, .iconst 1, 1, 1, 0), (63, .iadd, 1, 0, 0), (64, .iload_n 1, 1, 0, 0), (65, .invokestatic 47, 3, 0, 0), (68, .istore 4, 2, 0, 0), (70, .iload 4, 2, 0, 0), (72, .aload_n 0, 1, 0, 0), (73, .getfield 31, 3, 0, 0), (76, .iload 5, 2, 0, 0), (78, .iaload, 1, 0, 0), (79, .iload_n 1, 1, 0, 0), (80, .invokestatic 47, 3, 0, 0), (83, .istore 4, 2, 0, 0), (85, .iinc 5 1, 3, 1, 0), (88, .goto (-81), 3, 0, 7), (91, .iload 4, 2, 0, 0), (93, .ireturn, 1, 0, 0)]
theorem tX3_changeBehind_ok : (tX3_changeBehind.all (q_okI cX3_changeBehind)) = true := by decide +kernel

abbrev fdX3_changeBehind : List (Nat ⊕ (Nat × Nat)) := [.inl 0, .inr (0, 0), .inr (0, 1), .inr (0, 2), .inr (0, 3), .inr (0, 4), .inr (0, 5), .inr (0, 6)]
def spX3_changeBehind : q_P := fun a w K => ∃ (L : LT) (x1 x2 x3 : Int32), w = lawsW 0 L ∧ a = [.ref 0, .int x1, .int x2, .int x3] ∧ L_n L ≤ 24 ∧ K (.inl (some (.int (chgF L x1 x2 x3 (L_n L))))) (lawsW 0 L)
abbrev csX3_changeBehind : q_S := (4, 3, 1, 6, 0, 0, fdX3_changeBehind, spX3_changeBehind)
theorem coX3_47 (l : Launch) : q_CO l RX3 47 csX3_sooner := ⟨yX3_sooner, cX3_sooner, (some .int), 3, ⟨by decide +kernel, by decide +kernel, by decide +kernel⟩, q_G_i 4 (by decide +kernel) rfl, Or.inr (Or.inr (Or.inr ⟨rfl, rfl, q_G_i 898 (by decide +kernel) rfl, q_G_i 899 (by decide +kernel) rfl, Or.inl ⟨q_G_i 900 (by decide +kernel) rfl, ctX3_sooner l⟩⟩))⟩
def EX3_changeBehind : q_E := (tX3_changeBehind, [(7, [0, 1, 2, 3, 4, 5])], 6, flX3, [(47, csX3_sooner)], [], [(46, 1000000)], [], [], [], 1, 0, 0, (some .int), [], [], 0, 0)
theorem okX3_changeBehind (l : Launch) : q_Eok l RX3 cX3_changeBehind EX3_changeBehind := ⟨tX3_changeBehind_ok, flX3_ok, List.forall_mem_cons.mpr ⟨(coX3_47 l), q_nil⟩, q_nil, List.forall_mem_cons.mpr ⟨q_G_i 897 (by decide +kernel) rfl, q_nil⟩, q_nil, q_nil, q_nil, (fun h => absurd h (by decide))⟩
set_option maxRecDepth 100000 in
set_option maxHeartbeats 4000000 in
theorem ctX3_changeBehind (l : Launch) : q_CT l yX3_changeBehind (.code yX3_changeBehind cX3_changeBehind 6 (some .int)) 1 0 0 spX3_changeBehind := by
  refine q_ct_of EX3_changeBehind (by decide +kernel) (okX3_changeBehind l) rfl rfl rfl rfl rfl q_nil (fun ci h => by cases h) rfl ?_
  intro a w K h
  obtain ⟨L, x1, x2, x3, rfl, rfl, hn, hK⟩ := h
  dsimp only [L_n] at hn hK
  refine ⟨Nat.le_of_ble_eq_true rfl, fun C hC => ?_⟩
  have loop : ∀ k i, i + k = L.2.2.2.2.2.2.2 → C 7 [(0, .ref 0), (1, .int x1), (2, .int x2), (3, .int x3), (4, .int (chgF L x1 x2 x3 i)), (5, .int (nI i))] [] (lawsW 0 L) 0 0 := by
    intro k
    induction k with
    | zero =>
      intro i hi
      refine hC _ _ _ _ _ _ ?_
      have hi : i = L.2.2.2.2.2.2.2 := by omega
      subst hi
      refine And.intro (fun c1 => hK) (fun c1 => absurd (Int32.le_refl _) c1)
    | succ k ih =>
      intro i hi
      have hv : vp_in (nI i) 24 := vp_in_nI (by omega) (by omega)
      have hcl : (nI i).toNatClampNeg = i := nI_clamp (by omega)
      refine hC _ _ _ _ _ _ ?_
      refine And.intro (fun c1 => absurd c1 (nI_ge (by omega) (by omega))) (fun c1 => ?_)
      have next : ∀ x, x = chgF L x1 x2 x3 (i + 1) → C 7 [(0, .ref 0), (1, .int x1), (2, .int x2), (3, .int x3), (4, .int x), (5, .int (nI i + 1))] [] (lawsW 0 L) 0 0 := by
        intro x hx
        rw [nI_1, hx]
        exact ih (i + 1) (by omega)
      refine And.intro hv (And.intro (fun c2 => next _ ?_) (fun c2 => ?_))
      · rw [hcl] at c2; rw [chgF, if_neg (fun z => c2 z.1)]
      refine And.intro hv (And.intro (fun c3 => next _ ?_) (fun c3 => ?_))
      · rw [hcl] at c3; rw [chgF, if_neg (fun z => c3 z.2)]
      refine And.intro hv ⟨_, _, _, rfl, rfl, ?_⟩
      refine And.intro hv ⟨_, _, _, rfl, rfl, ?_⟩
      refine And.intro hv ⟨_, _, _, rfl, rfl, ?_⟩
      refine next _ ?_
      rw [hcl] at c2 c3
      rw [chgF, if_pos ⟨c2, c3⟩, hcl]
  exact hC _ _ _ _ _ _ (loop L.2.2.2.2.2.2.2 0 (by omega))
