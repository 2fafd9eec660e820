theorem le_of_nI {a b : Nat} (hb : b < 2 ^ 31) (ha : a < 2 ^ 31) (h : nI a ≤ nI b) : a ≤ b := (nI_leI ha hb).mp h
theorem lt_of_nI {a b : Nat} (hb : b < 2 ^ 31) (ha : a < 2 ^ 31) (h : ¬ nI b ≤ nI a) : a < b := by
  rcases Nat.lt_or_ge a b with z | z
  · exact z
  · exact absurd (nI_le z ha) h
def zf {α : Type} (z : α) (f : Nat → α) (n : Nat) : Nat → α := fun i => if i < n then z else f i
theorem zf_0 {α : Type} (z : α) (f : Nat → α) : zf z f 0 = f := by funext i; simp [zf]
theorem zf_s (z : Int32) (f : Nat → Int32) (n : Nat) : upd (zf z f n) n z = zf z f (n + 1) := by
  funext i
  simp only [upd, zf]
  by_cases h : i = n
  · simp [h]
  · by_cases h2 : i < n
    · simp [h, h2, Nat.lt_succ_of_lt h2]
    · simp [h, h2, show ¬ i < n + 1 by omega]
theorem zf_sL (z : Int64) (f : Nat → Int64) (n : Nat) : vp_updL (zf z f n) n z = zf z f (n + 1) := by
  funext i
  simp only [vp_updL, zf]
  by_cases h : i = n
  · simp [h]
  · by_cases h2 : i < n
    · simp [h, h2, Nat.lt_succ_of_lt h2]
    · simp [h, h2, show ¬ i < n + 1 by omega]
/-- one, other, days, coin, posts, asked, asking, count -/
abbrev RT : Type := (Nat → Int32) × (Nat → Int32) × (Nat → Int32) × (Nat → Int32) × (Nat → Int32) × (Nat → Int32) × (Nat → Int32) × Nat
def roadsW (o : Nat) (R : RT) : List q_C := [.inr (8, [.ref (o + 1), .ref (o + 2), .ref (o + 3), .ref (o + 4), .ref (o + 5), .ref (o + 6), .ref (o + 7), .int (nI R.2.2.2.2.2.2.2)]), .inl (1, 16, .inl R.1), .inl (1, 16, .inl R.2.1), .inl (1, 16, .inl R.2.2.1), .inl (1, 16, .inl R.2.2.2.1), .inl (1, 16, .inl R.2.2.2.2.1), .inl (1, 48, .inl R.2.2.2.2.2.1), .inl (1, 48, .inl R.2.2.2.2.2.2.1)]
def rpN (R : RT) (r : Nat) : Nat := (R.2.2.2.2.1 r).toNatClampNeg
def rOk (R : RT) : Prop := R.2.2.2.2.2.2.2 ≤ 16 ∧ ∀ r, r < R.2.2.2.2.2.2.2 → R.2.2.2.2.1 r = nI (rpN R r) ∧ rpN R r ≤ 3
def roadAdd (R : RT) (x y d c : Int32) : RT := (upd R.1 R.2.2.2.2.2.2.2 x, upd R.2.1 R.2.2.2.2.2.2.2 y, upd R.2.2.1 R.2.2.2.2.2.2.2 d, upd R.2.2.2.1 R.2.2.2.2.2.2.2 c, upd R.2.2.2.2.1 R.2.2.2.2.2.2.2 0, R.2.2.2.2.2.1, R.2.2.2.2.2.2.1, R.2.2.2.2.2.2.2 + 1)
def roadPost (R : RT) (r : Nat) (k l : Int32) : RT := (R.1, R.2.1, R.2.2.1, R.2.2.2.1, upd R.2.2.2.2.1 r (nI (rpN R r + 1)), upd R.2.2.2.2.2.1 (r * 3 + rpN R r) k, upd R.2.2.2.2.2.2.1 (r * 3 + rpN R r) l, R.2.2.2.2.2.2.2)
def acr (R : RT) (r : Nat) (x : Int32) : Int32 := if R.1 r = x then R.2.1 r else if R.2.1 r = x then R.1 r else -1
theorem nI_mul3 (p : Nat) : nI p * 3 = nI (p * 3) := pk_mul p 3

def tX8_hasRoom : List q_I := [(0, .aload_n 0, 1, 0, 0), (1, .getfield 33, 3, 0, 0), (4, .bipush 16, 2, 16, 0), (6, .if_icmp .ge 7, 3, 0, 13), (9, .iconst 1, 1, 1, 0), (10, .goto 4, 3, 0, 14), (13, .iconst 0, 1, 0, 0), (14, .ireturn, 1, 0, 0)]
theorem tX8_hasRoom_ok : (tX8_hasRoom.all (q_okI cX8_hasRoom)) = true := by decide +kernel

abbrev fdX8_hasRoom : List (Nat ⊕ (Nat × Nat)) := [.inl 0, .inr (0, 0), .inr (0, 1), .inr (0, 2), .inr (0, 3), .inr (0, 4), .inr (0, 5), .inr (0, 6)]
def spX8_hasRoom : q_P := fun a w K => ∃ R : RT, w = roadsW 0 R ∧ a = [.ref 0] ∧ R.2.2.2.2.2.2.2 ≤ 16 ∧ K (.inl (some (.int (bI (decide (R.2.2.2.2.2.2.2 < 16)))))) (roadsW 0 R)
abbrev csX8_hasRoom : q_S := (1, 8, 0, 1, 0, 0, fdX8_hasRoom, spX8_hasRoom)
def EX8_hasRoom : q_E := (tX8_hasRoom, [], 1, flX8, [], [], [], [], [], [], 0, 0, 0, (some .boolean), [], [], 0, 0)
theorem okX8_hasRoom (l : Launch) : q_Eok l RX8 cX8_hasRoom EX8_hasRoom := ⟨tX8_hasRoom_ok, flX8_ok, q_nil, q_nil, q_nil, q_nil, q_nil, q_nil, (fun h => absurd h (by decide))⟩
set_option maxRecDepth 100000 in
set_option maxHeartbeats 4000000 in
theorem ctX8_hasRoom (l : Launch) : q_CT l yX8_hasRoom (.code yX8_hasRoom cX8_hasRoom 1 (some .boolean)) 0 0 0 spX8_hasRoom := by
  refine q_ct_of EX8_hasRoom (by decide +kernel) (okX8_hasRoom l) rfl rfl rfl rfl rfl q_nil (fun ci h => by cases h) rfl ?_
  intro a w K h
  obtain ⟨R, rfl, rfl, hn, hK⟩ := h
  refine ⟨Nat.le_of_ble_eq_true rfl, fun C hC => hC _ _ _ _ _ _ ?_⟩
  refine And.intro (fun c => ⟨rfl, ?_⟩) (fun c => ⟨rfl, ?_⟩)
  · rw [bI_f (fun z => nI_ge (b := 16) z (by omega) c)] at hK; exact hK
  · rw [bI_t (lt_of_nI (b := 16) (by omega) (by omega) c)] at hK; exact hK
def tX8_add : List q_I := [(0, .aload_n 0, 1, 0, 0), (1, .getfield 11, 3, 0, 0), (4, .aload_n 0, 1, 0, 0), (5, .getfield 33, 3, 0, 0), (8, .iload_n 1, 1, 0, 0), (9, .iastore, 1, 0, 0), (10, .aload_n 0, 1, 0, 0), (11, .getfield 15, 3, 0, 0), (14, .aload_n 0, 1, 0, 0), (15, .getfield 33, 3, 0, 0), (18, .iload_n 2, 1, 0, 0), (19, .iastore, 1, 0, 0), (20, .aload_n 0, 1, 0, 0), (21, .getfield 18, 3, 0, 0), (24, .aload_n 0, 1, 0, 0), (25, .getfield 33, 3, 0, 0), (28, .iload_n 3, 1, 0, 0), (29, .iastore, 1, 0, 0), (30, .aload_n 0, 1, 0, 0), (31, .getfield 21, 3, 0, 0), (34, .aload_n 0, 1, 0, 0), (35, .getfield 33, 3, 0, 0), (38, .iload 4, 2, 0, 0), (40, .iastore, 1, 0, 0), (41, .aload_n 0, 1, 0, 0), (42, .getfield 24, 3, 0, 0), (45, .aload_n 0, 1, 0, 0), (46, .getfield 33, 3, 0, 0), (49, .iconst 0, 1, 0, 0), (50, .iastore, 1, 0, 0), (51, .aload_n 0, 1, 0, 0), (52, .dup, 1, 0, 0), (53, .getfield 33, 3, 0, 0), (56, .iconst 1, 1, 1, 0), (57, .iadd, 1, 0, 0), (58, .putfield 33, 3, 0, 0), (61, .return_, 1, 0, 0)]
theorem tX8_add_ok : (tX8_add.all (q_okI cX8_add)) = true := by decide +kernel

abbrev fdX8_add : List (Nat ⊕ (Nat × Nat)) := [.inl 0, .inr (0, 0), .inr (0, 1), .inr (0, 2), .inr (0, 3), .inr (0, 4), .inr (0, 5), .inr (0, 6)]
def spX8_add : q_P := fun a w K => ∃ (R : RT) (x y d c : Int32), w = roadsW 0 R ∧ a = [.ref 0, .int x, .int y, .int d, .int c] ∧ R.2.2.2.2.2.2.2 < 16 ∧ K (.inl none) (roadsW 0 (roadAdd R x y d c))
abbrev csX8_add : q_S := (5, 8, 0, 5, 0, 0, fdX8_add, spX8_add)
def EX8_add : q_E := (tX8_add, [], 5, flX8, [], [], [], [], [], [], 0, 0, 0, none, [], [], 0, 0)
theorem okX8_add (l : Launch) : q_Eok l RX8 cX8_add EX8_add := ⟨tX8_add_ok, flX8_ok, q_nil, q_nil, q_nil, q_nil, q_nil, q_nil, (fun h => absurd h (by decide))⟩
set_option maxRecDepth 100000 in
set_option maxHeartbeats 4000000 in
theorem ctX8_add (l : Launch) : q_CT l yX8_add (.code yX8_add cX8_add 5 none) 0 0 0 spX8_add := by
  refine q_ct_of EX8_add (by decide +kernel) (okX8_add l) rfl rfl rfl rfl rfl q_nil (fun ci h => by cases h) rfl ?_
  intro a w K h
  obtain ⟨R, x, y, d, c, rfl, rfl, hn, hK⟩ := h
  refine ⟨Nat.le_of_ble_eq_true rfl, fun C hC => hC _ _ _ _ _ _ ?_⟩
  have hv : vp_in (nI R.2.2.2.2.2.2.2) 16 := vp_in_nI hn (by omega)
  have hc : (nI R.2.2.2.2.2.2.2).toNatClampNeg = R.2.2.2.2.2.2.2 := nI_clamp (by omega)
  refine ⟨hv, hv, hv, hv, hv, ?_⟩
  show K (.inl none) _
  simp only [hc, nI_1]
  exact hK
def tX8_lastHasPostRoom : List q_I := [(0, .aload_n 0, 1, 0, 0), (1, .getfield 33, 3, 0, 0), (4, .ifCond .le 22, 3, 0, 26), (7, .aload_n 0, 1, 0, 0), (8, .getfield 24, 3, 0, 0), (11, .aload_n 0, 1, 0, 0), (12, .getfield 33, 3, 0, 0), (15, .iconst 1, 1, 1, 0), (16, .isub, 1, 0, 0), (17, .iaload, 1, 0, 0), (18, .iconst 3, 1, 3, 0), (19, .if_icmp .ge 7, 3, 0, 26), (22, .iconst 1, 1, 1, 0), (23, .goto 4, 3, 0, 27), (26, .iconst 0, 1, 0, 0), (27, .ireturn, 1, 0, 0)]
theorem tX8_lastHasPostRoom_ok : (tX8_lastHasPostRoom.all (q_okI cX8_lastHasPostRoom)) = true := by decide +kernel

abbrev fdX8_lastHasPostRoom : List (Nat ⊕ (Nat × Nat)) := [.inl 0, .inr (0, 0), .inr (0, 1), .inr (0, 2), .inr (0, 3), .inr (0, 4), .inr (0, 5), .inr (0, 6)]
def spX8_lastHasPostRoom : q_P := fun a w K => ∃ (R : RT) (r : Nat), w = roadsW 0 R ∧ a = [.ref 0] ∧ rOk R ∧ R.2.2.2.2.2.2.2 = r + 1 ∧ K (.inl (some (.int (bI (decide (rpN R r < 3)))))) (roadsW 0 R)
abbrev csX8_lastHasPostRoom : q_S := (1, 8, 0, 1, 0, 0, fdX8_lastHasPostRoom, spX8_lastHasPostRoom)
def EX8_lastHasPostRoom : q_E := (tX8_lastHasPostRoom, [], 1, flX8, [], [], [], [], [], [], 0, 0, 0, (some .boolean), [], [], 0, 0)
theorem okX8_lastHasPostRoom (l : Launch) : q_Eok l RX8 cX8_lastHasPostRoom EX8_lastHasPostRoom := ⟨tX8_lastHasPostRoom_ok, flX8_ok, q_nil, q_nil, q_nil, q_nil, q_nil, q_nil, (fun h => absurd h (by decide))⟩
set_option maxRecDepth 100000 in
set_option maxHeartbeats 4000000 in
theorem ctX8_lastHasPostRoom (l : Launch) : q_CT l yX8_lastHasPostRoom (.code yX8_lastHasPostRoom cX8_lastHasPostRoom 1 (some .boolean)) 0 0 0 spX8_lastHasPostRoom := by
  refine q_ct_of EX8_lastHasPostRoom (by decide +kernel) (okX8_lastHasPostRoom l) rfl rfl rfl rfl rfl q_nil (fun ci h => by cases h) rfl ?_
  intro a w K h
  obtain ⟨R, r, rfl, rfl, ho, hr, hK⟩ := h
  obtain ⟨h3, h4⟩ := ho.2 r (by omega)
  have h16 := ho.1
  refine ⟨Nat.le_of_ble_eq_true rfl, fun C hC => hC _ _ _ _ _ _ ?_⟩
  have e1 : nI R.2.2.2.2.2.2.2 - 1 = nI r := by rw [hr, nI_pred]
  refine And.intro (fun c => absurd c (nI_nle (by omega) (by omega))) (fun c => ⟨by rw [e1]; exact vp_in_nI (by omega) (by omega), ?_⟩)
  have hc : (nI R.2.2.2.2.2.2.2 - 1).toNatClampNeg = r := by rw [e1]; exact nI_clamp (by omega)
  refine And.intro (fun c => ⟨rfl, ?_⟩) (fun c => ⟨rfl, ?_⟩)
  · have c : (3 : Int32) ≤ R.2.2.2.2.1 (nI R.2.2.2.2.2.2.2 - 1).toNatClampNeg := c
    rw [hc, h3] at c
    rw [bI_f (fun z => nI_ge (b := 3) z (by omega) c)] at hK; exact hK
  · have c : ¬ (3 : Int32) ≤ R.2.2.2.2.1 (nI R.2.2.2.2.2.2.2 - 1).toNatClampNeg := c
    rw [hc, h3] at c
    rw [bI_t (lt_of_nI (b := 3) (by omega) (by omega) c)] at hK; exact hK
def tX8_addPostToLast : List q_I := [(0, .aload_n 0, 1, 0, 0), (1, .getfield 33, 3, 0, 0), (4, .iconst 1, 1, 1, 0), (5, .isub, 1, 0, 0), (6, .istore_n 3, 1, 0, 0), (7, .iload_n 3, 1, 0, 0), (8, .iconst 3, 1, 3, 0), (9, .imul, 1, 0, 0), (10, .aload_n 0, 1, 0, 0), (11, .getfield 24, 3, 0, 0), (14, .iload_n 3, 1, 0, 0), (15, .iaload, 1, 0, 0), (16, .iadd, 1, 0, 0), (17, .istore 4, 2, 0, 0), (19, .aload_n 0, 1, 0, 0), (20, .getfield 27, 3, 0, 0), (23, .iload 4, 2, 0, 0), (25, .iload_n 1, 1, 0, 0), (26, .iastore, 1, 0, 0), (27, .aload_n 0, 1, 0, 0), (28, .getfield 30, 3, 0, 0), (31, .iload 4, 2, 0, 0), (33, .iload_n 2, 1, 0, 0), (34, .iastore, 1, 0, 0), (35, .aload_n 0, 1, 0, 0), (36, .getfield 24, 3, 0, 0), (39, .iload_n 3, 1, 0, 0), (40, .dup2, 1, 0, 0), (41, .iaload, 1, 0, 0), (42, .iconst 1, 1, 1, 0), (43, .iadd, 1, 0, 0), (44, .iastore, 1, 0, 0), (45, .return_, 1, 0, 0)]
theorem tX8_addPostToLast_ok : (tX8_addPostToLast.all (q_okI cX8_addPostToLast)) = true := by decide +kernel

abbrev fdX8_addPostToLast : List (Nat ⊕ (Nat × Nat)) := [.inl 0, .inr (0, 0), .inr (0, 1), .inr (0, 2), .inr (0, 3), .inr (0, 4), .inr (0, 5), .inr (0, 6)]
def spX8_addPostToLast : q_P := fun a w K => ∃ (R : RT) (r : Nat) (k l : Int32), w = roadsW 0 R ∧ a = [.ref 0, .int k, .int l] ∧ rOk R ∧ R.2.2.2.2.2.2.2 = r + 1 ∧ rpN R r < 3 ∧ K (.inl none) (roadsW 0 (roadPost R r k l))
abbrev csX8_addPostToLast : q_S := (3, 8, 0, 5, 0, 0, fdX8_addPostToLast, spX8_addPostToLast)
def EX8_addPostToLast : q_E := (tX8_addPostToLast, [], 5, flX8, [], [], [], [], [], [], 0, 0, 0, none, [], [], 0, 0)
theorem okX8_addPostToLast (l : Launch) : q_Eok l RX8 cX8_addPostToLast EX8_addPostToLast := ⟨tX8_addPostToLast_ok, flX8_ok, q_nil, q_nil, q_nil, q_nil, q_nil, q_nil, (fun h => absurd h (by decide))⟩
set_option maxRecDepth 100000 in
set_option maxHeartbeats 4000000 in
theorem ctX8_addPostToLast (l : Launch) : q_CT l yX8_addPostToLast (.code yX8_addPostToLast cX8_addPostToLast 5 none) 0 0 0 spX8_addPostToLast := by
  refine q_ct_of EX8_addPostToLast (by decide +kernel) (okX8_addPostToLast l) rfl rfl rfl rfl rfl q_nil (fun ci h => by cases h) rfl ?_
  intro a w K h
  obtain ⟨R, r, k, l, rfl, rfl, ho, hr, hlt, hK⟩ := h
  obtain ⟨h3, h4⟩ := ho.2 r (by omega)
  have h16 := ho.1
  refine ⟨Nat.le_of_ble_eq_true rfl, fun C hC => hC _ _ _ _ _ _ ?_⟩
  have e1 : nI R.2.2.2.2.2.2.2 - 1 = nI r := by rw [hr, nI_pred]
  have hc : (nI R.2.2.2.2.2.2.2 - 1).toNatClampNeg = r := by rw [e1]; exact nI_clamp (by omega)
  have hv : vp_in (nI R.2.2.2.2.2.2.2 - 1) 16 := by rw [e1]; exact vp_in_nI (by omega) (by omega)
  have e2 : (nI R.2.2.2.2.2.2.2 - 1) * 3 + R.2.2.2.2.1 (nI R.2.2.2.2.2.2.2 - 1).toNatClampNeg = nI (r * 3 + rpN R r) := by rw [hc, e1, h3, nI_mul3, nI_add]
  have hv2 : vp_in ((nI R.2.2.2.2.2.2.2 - 1) * 3 + R.2.2.2.2.1 (nI R.2.2.2.2.2.2.2 - 1).toNatClampNeg) 48 := by rw [e2]; exact vp_in_nI (by omega) (by omega)
  have hc2 : (nI (r * 3 + rpN R r)).toNatClampNeg = r * 3 + rpN R r := nI_clamp (by omega)
  refine ⟨hv, hv2, hv2, hv, hv, ?_⟩
  show K (.inl none) _
  simp only [e2]
  simp only [hc2, hc, h3, nI_1]
  exact hK
def tX8_across : List q_I := [(0, .aload_n 0, 1, 0, 0), (1, .getfield 11, 3, 0, 0), (4, .iload_n 1, 1, 0, 0), (5, .iaload, 1, 0, 0), (6, .iload_n 2, 1, 0, 0), (7, .if_icmp .ne 10, 3, 0, 17), (10, .aload_n 0, 1, 0, 0), (11, .getfield 15, 3, 0, 0), (14, .iload_n 1, 1, 0, 0), (15, .iaload, 1, 0, 0), (16, .ireturn, 1, 0, 0), (17, .aload_n 0, 1, 0, 0), (18, .getfield 15, 3, 0, 0), (21, .iload_n 1, 1, 0, 0), (22, .iaload, 1, 0, 0), (23, .iload_n 2, 1, 0, 0), (24, .if_icmp .ne 12, 3, 0, 36), (27, .aload_n 0, 1, 0, 0), (28, .getfield 11, 3, 0, 0), (31, .iload_n 1, 1, 0, 0), (32, .iaload, 1, 0, 0), (33, .goto 4, 3, 0, 37), (36, .iconst (-1), 1, (-1), 0), (37, .ireturn, 1, 0, 0)]
theorem tX8_across_ok : (tX8_across.all (q_okI cX8_across)) = true := by decide +kernel

abbrev fdX8_across : List (Nat ⊕ (Nat × Nat)) := [.inl 0, .inr (0, 0), .inr (0, 1), .inr (0, 2), .inr (0, 3), .inr (0, 4), .inr (0, 5), .inr (0, 6)]
def spX8_across : q_P := fun a w K => ∃ (R : RT) (r : Nat) (x : Int32), w = roadsW 0 R ∧ a = [.ref 0, .int (nI r), .int x] ∧ r < 16 ∧ K (.inl (some (.int (acr R r x)))) (roadsW 0 R)
abbrev csX8_across : q_S := (3, 8, 0, 3, 0, 0, fdX8_across, spX8_across)
def EX8_across : q_E := (tX8_across, [], 3, flX8, [], [], [], [], [], [], 0, 0, 0, (some .int), [], [], 0, 0)
theorem okX8_across (l : Launch) : q_Eok l RX8 cX8_across EX8_across := ⟨tX8_across_ok, flX8_ok, q_nil, q_nil, q_nil, q_nil, q_nil, q_nil, (fun h => absurd h (by decide))⟩
set_option maxRecDepth 100000 in
set_option maxHeartbeats 4000000 in
theorem ctX8_across (l : Launch) : q_CT l yX8_across (.code yX8_across cX8_across 3 (some .int)) 0 0 0 spX8_across := by
  refine q_ct_of EX8_across (by decide +kernel) (okX8_across l) rfl rfl rfl rfl rfl q_nil (fun ci h => by cases h) rfl ?_
  intro a w K h
  obtain ⟨R, r, x, rfl, rfl, hr, hK⟩ := h
  refine ⟨Nat.le_of_ble_eq_true rfl, fun C hC => hC _ _ _ _ _ _ ?_⟩
  have hv : vp_in (nI r) 16 := vp_in_nI hr (by omega)
  have hc : (nI r).toNatClampNeg = r := nI_clamp (by omega)
  refine ⟨hv, And.intro (fun c => ⟨hv, And.intro (fun c2 => ?_) (fun c2 => ⟨hv, ?_⟩)⟩) (fun c => ⟨hv, ?_⟩)⟩
  · have c : ¬ R.1 (nI r).toNatClampNeg = x := c
    have c2 : ¬ R.2.1 (nI r).toNatClampNeg = x := c2
    rw [hc] at c c2
    rw [acr, if_neg c, if_neg c2] at hK; exact hK
  · have c : ¬ R.1 (nI r).toNatClampNeg = x := c
    have c2 : R.2.1 (nI r).toNatClampNeg = x := c2
    rw [hc] at c c2
    rw [acr, if_neg c, if_pos c2] at hK
    show K (.inl (some (.int _))) _
    rw [hc]; exact hK
  · have c : R.1 (nI r).toNatClampNeg = x := c
    rw [hc] at c
    rw [acr, if_pos c] at hK
    show K (.inl (some (.int _))) _
    rw [hc]; exact hK
/-- kind, office, after, cases, caseSort, caseSubject, caseOffice, past, count -/
abbrev GT : Type := (Nat → Int32) × (Nat → Int32) × (Nat → Int32) × (Nat → Int32) × (Nat → Int32) × (Nat → Int32) × (Nat → Int32) × (Nat → Int32) × Nat
def giftsW (o : Nat) (G : GT) : List q_C := [.inr (2, [.ref (o + 1), .ref (o + 2), .ref (o + 3), .ref (o + 4), .ref (o + 5), .ref (o + 6), .ref (o + 7), .ref (o + 8), .int (nI G.2.2.2.2.2.2.2.2)]), .inl (1, 12, .inl G.1), .inl (1, 12, .inl G.2.1), .inl (1, 12, .inl G.2.2.1), .inl (1, 12, .inl G.2.2.2.1), .inl (1, 36, .inl G.2.2.2.2.1), .inl (1, 36, .inl G.2.2.2.2.2.1), .inl (1, 36, .inl G.2.2.2.2.2.2.1), .inl (3, 12, .inl G.2.2.2.2.2.2.2.1)]
/-- told, name, sort, number, names -/
abbrev BT : Type := (Nat → Int32) × (Nat → Int64) × (Nat → Int32) × (Nat → Int32) × Nat
def bookO (o : Nat) (r l g : Value) (B : BT) : List q_C := [.inr (0, [.ref (o + 1), .ref (o + 2), .ref (o + 3), .ref (o + 4), .int (nI B.2.2.2.2), r, l, g]), .inl (1, 4, .inl B.1), .inl (2, 25, .inr B.2.1), .inl (1, 25, .inl B.2.2.1), .inl (1, 25, .inl B.2.2.2.1)]
def bookW (o : Nat) (B : BT) (R : RT) (L : LT) (G : GT) : List q_C := bookO o (.ref (o + 5)) (.ref (o + 13)) (.ref (o + 21)) B ++ (roadsW (o + 5) R ++ (lawsW (o + 13) L ++ giftsW (o + 21) G))
def bookClear (B : BT) : BT := (zf 0 B.1 4, B.2.1, B.2.2.1, B.2.2.2.1, 0)
def roadsZ (R : RT) : RT := (R.1, R.2.1, R.2.2.1, R.2.2.2.1, R.2.2.2.2.1, R.2.2.2.2.2.1, R.2.2.2.2.2.2.1, 0)
def lawsC (L : LT) (n : Nat) : LT := (L.1, L.2.1, L.2.2.1, L.2.2.2.1, L.2.2.2.2.1, L.2.2.2.2.2.1, L.2.2.2.2.2.2.1, n)
def giftsZ (G : GT) : GT := (G.1, G.2.1, G.2.2.1, G.2.2.2.1, G.2.2.2.2.1, G.2.2.2.2.2.1, G.2.2.2.2.2.2.1, G.2.2.2.2.2.2.2.1, 0)
def tX0_clear : List q_I := [(0, .iconst 0, 1, 0, 0), (1, .istore_n 1, 1, 0, 0), (2, .iload_n 1, 1, 0, 0), (3, .aload_n 0, 1, 0, 0), (4, .getfield 9, 3, 0, 0), (7, .arraylength, 1, 0, 0), (8, .if_icmp .ge 16, 3, 0, 24), (11, .aload_n 0, 1, 0, 0), (12, .getfield 9, 3, 0, 0), (15, .iload_n 1, 1, 0, 0), (16, .iconst 0, 1, 0, 0), (17, .iastore, 1, 0, 0), (18, .iinc 1 1, 3, 1, 0), (21, .goto (-19), 3, 0, 2), (24, .aload_n 0, 1, 0, 0), (25, .iconst 0, 1, 0, 0), (26, .putfield 46, 3, 0, 0), (29, .aload_n 0, 1, 0, 0), (30, .getfield 28, 3, 0, 0), (33, .iconst 0, 1, 0, 0), (34, .putfield 50, 3, 0, 0), (37, .aload_n 0, 1, 0, 0), (38, .getfield 35, 3, 0, 0), (41, .iconst 0, 1, 0, 0), (42, .putfield 53, 3, 0, 0), (45, .aload_n 0, 1, 0, 0), (46, .getfield 42, 3, 0, 0), (49, .iconst 0, 1, 0, 0), (50, .putfield 54, 3, 0, 0), (53, .return_, 1, 0, 0)]
theorem tX0_clear_ok : (tX0_clear.all (q_okI cX0_clear)) = true := by decide +kernel

abbrev fdX0_clear : List (Nat ⊕ (Nat × Nat)) := [.inl 0, .inr (0, 0), .inr (0, 1), .inr (0, 2), .inr (0, 3), .inr (0, 5), .inr (5, 0), .inr (5, 1), .inr (5, 2), .inr (5, 3), .inr (5, 4), .inr (5, 5), .inr (5, 6), .inr (0, 6), .inr (13, 0), .inr (13, 1), .inr (13, 2), .inr (13, 3), .inr (13, 4), .inr (13, 5), .inr (13, 6), .inr (0, 7), .inr (21, 0), .inr (21, 1), .inr (21, 2), .inr (21, 3), .inr (21, 4), .inr (21, 5), .inr (21, 6), .inr (21, 7)]
def spX0_clear : q_P := fun a w K => ∃ (B : BT) (R : RT) (L : LT) (G : GT), w = bookW 0 B R L G ∧ a = [.ref 0] ∧ K (.inl none) (bookW 0 (bookClear B) (roadsZ R) (lawsC L 0) (giftsZ G))
abbrev csX0_clear : q_S := (1, 0, 0, 2, 0, 0, fdX0_clear, spX0_clear)
def EX0_clear : q_E := (tX0_clear, [(2, [0, 1])], 2, flX0, [], [], [], [], [], [], 0, 0, 0, none, [], [], 0, 0)
theorem okX0_clear (l : Launch) : q_Eok l RX0 cX0_clear EX0_clear := ⟨tX0_clear_ok, flX0_ok, q_nil, q_nil, q_nil, q_nil, q_nil, q_nil, (fun h => absurd h (by decide))⟩
set_option maxRecDepth 100000 in
set_option maxHeartbeats 4000000 in
theorem ctX0_clear (l : Launch) : q_CT l yX0_clear (.code yX0_clear cX0_clear 2 none) 0 0 0 spX0_clear := by
  refine q_ct_of EX0_clear (by decide +kernel) (okX0_clear l) rfl rfl rfl rfl rfl q_nil (fun ci h => by cases h) rfl ?_
  intro a w K h
  obtain ⟨B, R, L, G, rfl, rfl, hK⟩ := h
  refine ⟨Nat.le_of_ble_eq_true rfl, fun C hC => ?_⟩
  have loop : ∀ n i, i + n = 4 → C 2 [(0, .ref 0), (1, .int (nI i))] [] (bookW 0 (zf 0 B.1 i, B.2.1, B.2.2.1, B.2.2.2.1, B.2.2.2.2) R L G) 0 0 := by
    intro n
    induction n with
    | zero =>
      intro i hi
      have hi : i = 4 := by omega
      subst hi
      refine hC _ _ _ _ _ _ ?_
      exact ⟨Or.inr (Or.inl rfl), And.intro (fun c1 => hK) (fun c1 => absurd (Int32.le_refl _) c1)⟩
    | succ n ih =>
      intro i hi
      refine hC _ _ _ _ _ _ ?_
      refine ⟨Or.inr (Or.inl rfl), And.intro (fun c1 => absurd c1 (nI_ge (b := 4) (by omega) (by omega))) (fun c1 => ⟨vp_in_nI (by omega) (by omega), ?_⟩)⟩
      have h9 := ih (i + 1) (by omega)
      rw [← nI_1, ← zf_s] at h9
      have hc : (nI i).toNatClampNeg = i := nI_clamp (by omega)
      rw [show upd (zf 0 B.1 i) i 0 = upd (zf 0 B.1 i) (nI i).toNatClampNeg 0 by rw [hc]] at h9
      exact h9
  refine hC _ _ _ _ _ _ ?_
  have h9 := loop 4 0 rfl
  rw [zf_0] at h9
  exact h9
def tX0_has : List q_I := [(0, .iload_n 2, 1, 0, 0), (1, .ifCond .lt 17, 3, 0, 18), (4, .iload_n 2, 1, 0, 0), (5, .aload_n 0, 1, 0, 0), (6, .getfield 9, 3, 0, 0), (9, .iload_n 1, 1, 0, 0), (10, .iaload, 1, 0, 0), (11, .if_icmp .ge 7, 3, 0, 18), (14, .iconst 1, 1, 1, 0), (15, .goto 4, 3, 0, 19), (18, .iconst 0, 1, 0, 0), (19, .ireturn, 1, 0, 0)]
theorem tX0_has_ok : (tX0_has.all (q_okI cX0_has)) = true := by decide +kernel

abbrev fdX0_has : List (Nat ⊕ (Nat × Nat)) := [.inl 0, .inr (0, 0)]
def spX0_has : q_P := fun a w K => ∃ (told : Nat → Int32) (s : Nat) (x : Int32) (v1 v2 v3 v4 v5 v6 v7 : Value), w = [.inr (0, [.ref 1, v1, v2, v3, v4, v5, v6, v7]), .inl (1, 4, .inl told)] ∧ a = [.ref 0, .int (nI s), .int x] ∧ s < 4 ∧ K (.inl (some (.int (bI (decide (0 ≤ x ∧ x < told s)))))) w
abbrev csX0_has : q_S := (3, 0, 0, 3, 0, 0, fdX0_has, spX0_has)
def EX0_has : q_E := (tX0_has, [], 3, flX0, [], [], [], [], [], [], 0, 0, 0, (some .boolean), [], [], 0, 0)
theorem okX0_has (l : Launch) : q_Eok l RX0 cX0_has EX0_has := ⟨tX0_has_ok, flX0_ok, q_nil, q_nil, q_nil, q_nil, q_nil, q_nil, (fun h => absurd h (by decide))⟩
set_option maxRecDepth 100000 in
set_option maxHeartbeats 4000000 in
theorem ctX0_has (l : Launch) : q_CT l yX0_has (.code yX0_has cX0_has 3 (some .boolean)) 0 0 0 spX0_has := by
  refine q_ct_of EX0_has (by decide +kernel) (okX0_has l) rfl rfl rfl rfl rfl q_nil (fun ci h => by cases h) rfl ?_
  intro a w K h
  obtain ⟨told, s, x, v1, v2, v3, v4, v5, v6, v7, rfl, rfl, hs, hK⟩ := h
  refine ⟨Nat.le_of_ble_eq_true rfl, fun C hC => hC _ _ _ _ _ _ ?_⟩
  have hc : (nI s).toNatClampNeg = s := nI_clamp (by omega)
  refine And.intro (fun c => ⟨rfl, ?_⟩) (fun c => ⟨vp_in_nI hs (by omega), And.intro (fun c2 => ⟨rfl, ?_⟩) (fun c2 => ⟨rfl, ?_⟩)⟩)
  · rw [bI_f (fun z => Int32.not_le.mpr c z.1)] at hK; exact hK
  · rw [hc] at c2; rw [bI_f (fun z => Int32.not_le.mpr z.2 c2)] at hK; exact hK
  · rw [hc] at c2; rw [bI_t ⟨Int32.not_lt.mp c, Int32.not_le.mp c2⟩] at hK; exact hK
def tX0_hasRoom : List q_I := [(0, .aload_n 0, 1, 0, 0), (1, .getfield 46, 3, 0, 0), (4, .bipush 25, 2, 25, 0), (6, .if_icmp .ge 21, 3, 0, 27), (9, .aload_n 0, 1, 0, 0), (10, .getfield 9, 3, 0, 0), (13, .iload_n 1, 1, 0, 0), (14, .iaload, 1, 0, 0), (15, .getstatic 55, 3, 0, 0), (18, .iload_n 1, 1, 0, 0), (19, .iaload, 1, 0, 0), (20, .if_icmp .ge 7, 3, 0, 27), (23, .iconst 1, 1, 1, 0), (24, .goto 4, 3, 0, 28), (27, .iconst 0, 1, 0, 0), (28, .ireturn, 1, 0, 0)]
theorem tX0_hasRoom_ok : (tX0_hasRoom.all (q_okI cX0_hasRoom)) = true := by decide +kernel

abbrev fdX0_hasRoom : List (Nat ⊕ (Nat × Nat)) := [.inl 0, .inr (0, 0), .inr (0, 1), .inr (0, 2), .inr (0, 3)]
def spX0_hasRoom : q_P := fun a w K => ∃ (B : BT) (r l g : Value) (s : Nat), w = bookO 0 r l g B ∧ a = [.ref 0, .int (nI s)] ∧ s < 4 ∧ B.2.2.2.2 ≤ 25 ∧ K (.inl (some (.int (bI (decide (B.2.2.2.2 < 25 ∧ B.1 s < q_ROOM s)))))) (bookO 0 r l g B)
abbrev csX0_hasRoom : q_S := (2, 0, 0, 2, 0, 0, fdX0_hasRoom, spX0_hasRoom)
def EX0_hasRoom : q_E := (tX0_hasRoom, [], 2, flX0, [], [], [], [], [(44, 4, q_ROOM)], [(55, 44)], 0, 0, 0, (some .boolean), [], [], 0, 0)
theorem okX0_hasRoom (l : Launch) : q_Eok l RX0 cX0_hasRoom EX0_hasRoom := ⟨tX0_hasRoom_ok, flX0_ok, q_nil, q_nil, q_nil, q_nil, List.forall_mem_cons.mpr ⟨Or.inl ⟨rfl, q_G_i 644 (by decide +kernel) rfl⟩, q_nil⟩, q_nil, (fun h => absurd h (by decide))⟩
set_option maxRecDepth 100000 in
set_option maxHeartbeats 4000000 in
theorem ctX0_hasRoom (l : Launch) : q_CT l yX0_hasRoom (.code yX0_hasRoom cX0_hasRoom 2 (some .boolean)) 0 0 0 spX0_hasRoom := by
  refine q_ct_of EX0_hasRoom (by decide +kernel) (okX0_hasRoom l) rfl rfl rfl rfl rfl (fun x h => List.mem_singleton.mp h) (fun ci h => by cases h) rfl ?_
  intro a w K h
  obtain ⟨B, r, l, g, s, rfl, rfl, hs, hn, hK⟩ := h
  refine ⟨Nat.le_of_ble_eq_true rfl, fun C hC => hC _ _ _ _ _ _ ?_⟩
  have hc : (nI s).toNatClampNeg = s := nI_clamp (by omega)
  have hv : vp_in (nI s) 4 := vp_in_nI hs (by omega)
  refine And.intro (fun c => ⟨rfl, ?_⟩) (fun c => ⟨hv, hv, And.intro (fun c2 => ⟨rfl, ?_⟩) (fun c2 => ⟨rfl, ?_⟩)⟩)
  · rw [bI_f (fun z => nI_ge (b := 25) z.1 (by omega) c)] at hK; exact hK
  · rw [hc] at c2; rw [bI_f (fun z => Int32.not_le.mpr z.2 c2)] at hK; exact hK
  · rw [hc] at c2; rw [bI_t ⟨lt_of_nI (b := 25) (by omega) (by omega) c, Int32.not_le.mp c2⟩] at hK; exact hK
def bookTell (B : BT) (x : Int64) (s : Nat) : BT := (upd B.1 s (B.1 s + 1), vp_updL B.2.1 B.2.2.2.2 x, upd B.2.2.1 B.2.2.2.2 (nI s), upd B.2.2.2.1 B.2.2.2.2 (B.1 s), B.2.2.2.2 + 1)
def tX0_tell : List q_I := [(0, .aload_n 0, 1, 0, 0), (1, .getfield 15, 3, 0, 0), (4, .aload_n 0, 1, 0, 0), (5, .getfield 46, 3, 0, 0), (8, .lload_n 1, 1, 0, 0), (9, .lastore, 1, 0, 0), (10, .aload_n 0, 1, 0, 0), (11, .getfield 19, 3, 0, 0), (14, .aload_n 0, 1, 0, 0), (15, .getfield 46, 3, 0, 0), (18, .iload_n 3, 1, 0, 0), (19, .iastore, 1, 0, 0), (20, .aload_n 0, 1, 0, 0), (21, .getfield 22, 3, 0, 0), (24, .aload_n 0, 1, 0, 0), (25, .getfield 46, 3, 0, 0), (28, .aload_n 0, 1, 0, 0), (29, .getfield 9, 3, 0, 0), (32, .iload_n 3, 1, 0, 0), (33, .iaload, 1, 0, 0), (34, .iastore, 1, 0, 0), (35, .aload_n 0, 1, 0, 0), (36, .dup, 1, 0, 0), (37, .getfield 46, 3, 0, 0), (40, .iconst 1, 1, 1, 0), (41, .iadd, 1, 0, 0), (42, .putfield 46, 3, 0, 0), (45, .aload_n 0, 1, 0, 0), (46, .getfield 9, 3, 0, 0), (49, .iload_n 3, 1, 0, 0), (50, .dup2, 1, 0, 0), (51, .iaload, 1, 0, 0), (52, .iconst 1, 1, 1, 0), (53, .iadd, 1, 0, 0), (54, .iastore, 1, 0, 0), (55, .return_, 1, 0, 0)]
theorem tX0_tell_ok : (tX0_tell.all (q_okI cX0_tell)) = true := by decide +kernel

abbrev fdX0_tell : List (Nat ⊕ (Nat × Nat)) := [.inl 0, .inr (0, 0), .inr (0, 1), .inr (0, 2), .inr (0, 3)]
def spX0_tell : q_P := fun a w K => ∃ (B : BT) (r l g : Value) (x : Int64) (s : Nat), w = bookO 0 r l g B ∧ a = [.ref 0, .long x, .int (nI s)] ∧ s < 4 ∧ B.2.2.2.2 < 25 ∧ K (.inl none) (bookO 0 r l g (bookTell B x s))
abbrev csX0_tell : q_S := (3, 0, 0, 4, 0, 0, fdX0_tell, spX0_tell)
def EX0_tell : q_E := (tX0_tell, [], 4, flX0, [], [], [], [], [], [], 0, 0, 0, none, [], [], 0, 0)
theorem okX0_tell (l : Launch) : q_Eok l RX0 cX0_tell EX0_tell := ⟨tX0_tell_ok, flX0_ok, q_nil, q_nil, q_nil, q_nil, q_nil, q_nil, (fun h => absurd h (by decide))⟩
set_option maxRecDepth 100000 in
set_option maxHeartbeats 4000000 in
theorem ctX0_tell (l : Launch) : q_CT l yX0_tell (.code yX0_tell cX0_tell 4 none) 0 0 0 spX0_tell := by
  refine q_ct_of EX0_tell (by decide +kernel) (okX0_tell l) rfl rfl rfl rfl rfl q_nil (fun ci h => by cases h) rfl ?_
  intro a w K h
  obtain ⟨B, r, l, g, x, s, rfl, rfl, hs, hn, hK⟩ := h
  refine ⟨Nat.le_of_ble_eq_true rfl, fun C hC => hC _ _ _ _ _ _ ?_⟩
  have hc : (nI s).toNatClampNeg = s := nI_clamp (by omega)
  have hv : vp_in (nI s) 4 := vp_in_nI hs (by omega)
  have hc2 : (nI B.2.2.2.2).toNatClampNeg = B.2.2.2.2 := nI_clamp (by omega)
  have hv2 : vp_in (nI B.2.2.2.2) 25 := vp_in_nI hn (by omega)
  refine ⟨hv2, hv2, hv, hv2, hv, hv, ?_⟩
  show K (.inl none) _
  simp only [hc, hc2, nI_1]
  exact hK
def fstO (P : Nat → Bool) : Nat → Nat → Option Nat
  | _, 0 => none
  | s, n + 1 => if P s then some s else fstO P (s + 1) n
def tX0_find : List q_I := [(0, .iconst 0, 1, 0, 0), (1, .istore_n 3, 1, 0, 0), (2, .iload_n 3, 1, 0, 0), (3, .aload_n 0, 1, 0, 0), (4, .getfield 46, 3, 0, 0), (7, .if_icmp .ge 22, 3, 0, 29), (10, .aload_n 0, 1, 0, 0), (11, .getfield 15, 3, 0, 0), (14, .iload_n 3, 1, 0, 0), (15, .laload, 1, 0, 0), (16, .lload_n 1, 1, 0, 0), (17, .lcmp, 1, 0, 0), (18, .ifCond .ne 5, 3, 0, 23), (21, .iload_n 3, 1, 0, 0), (22, .ireturn, 1, 0, 0), (23, .iinc 3 1, 3, 1, 0), (26, .goto (-24), 3, 0, 2), (29, .iconst (-1), 1, (-1), 0), (30, .ireturn, 1, 0, 0)]
theorem tX0_find_ok : (tX0_find.all (q_okI cX0_find)) = true := by decide +kernel

abbrev fdX0_find : List (Nat ⊕ (Nat × Nat)) := [.inl 0, .inr (0, 0), .inr (0, 1), .inr (0, 2), .inr (0, 3)]
def spX0_find : q_P := fun a w K => ∃ (B : BT) (r l g : Value) (x : Int64), w = bookO 0 r l g B ∧ a = [.ref 0, .long x] ∧ B.2.2.2.2 ≤ 25 ∧ K (.inl (some (.int (oI (fstO (fun i => decide (B.2.1 i = x)) 0 B.2.2.2.2))))) (bookO 0 r l g B)
abbrev csX0_find : q_S := (2, 0, 0, 4, 0, 0, fdX0_find, spX0_find)
def EX0_find : q_E := (tX0_find, [(2, [0, 1, 3])], 4, flX0, [], [], [], [], [], [], 0, 0, 0, (some .int), [], [], 0, 0)
theorem okX0_find (l : Launch) : q_Eok l RX0 cX0_find EX0_find := ⟨tX0_find_ok, flX0_ok, q_nil, q_nil, q_nil, q_nil, q_nil, q_nil, (fun h => absurd h (by decide))⟩
set_option maxRecDepth 100000 in
set_option maxHeartbeats 4000000 in
theorem ctX0_find (l : Launch) : q_CT l yX0_find (.code yX0_find cX0_find 4 (some .int)) 0 0 0 spX0_find := by
  refine q_ct_of EX0_find (by decide +kernel) (okX0_find l) rfl rfl rfl rfl rfl q_nil (fun ci h => by cases h) rfl ?_
  intro a w K h
  obtain ⟨B, r, l, g, x, rfl, rfl, hn, hK⟩ := h
  refine ⟨Nat.le_of_ble_eq_true rfl, fun C hC => ?_⟩
  have loop : ∀ n i, i + n = B.2.2.2.2 → fstO (fun i => decide (B.2.1 i = x)) 0 B.2.2.2.2 = fstO (fun i => decide (B.2.1 i = x)) i n → C 2 [(0, .ref 0), (1, .long x), (3, .int (nI i))] [] (bookO 0 r l g B) 0 0 := by
    intro n
    induction n with
    | zero =>
      intro i hi he
      refine hC _ _ _ _ _ _ ?_
      refine And.intro (fun c1 => ?_) (fun c1 => absurd (nI_le (by omega) (by omega)) c1)
      rw [he] at hK; exact hK
    | succ n ih =>
      intro i hi he
      refine hC _ _ _ _ _ _ ?_
      have hc : (nI i).toNatClampNeg = i := nI_clamp (by omega)
      refine And.intro (fun c1 => absurd c1 (nI_ge (by omega) (by omega))) (fun c1 => ⟨vp_in_nI (by omega) (by omega), And.intro (fun c2 => ?_) (fun c2 => ?_)⟩)
      · have c2 := fun z => c2 ((lg_cmp_eq _ _).mpr z)
        rw [hc] at c2
        have h9 := ih (i + 1) (by omega) (by rw [he, fstO, decide_eq_false c2]; rfl)
        rw [← nI_1] at h9
        exact h9
      · have c2 := (lg_cmp_eq _ _).mp c2
        rw [hc] at c2
        rw [he, fstO, decide_eq_true c2] at hK; exact hK
  exact hC _ _ _ _ _ _ (loop B.2.2.2.2 0 (by omega) rfl)
/-- kind, office, person, matter, value, since, byLand, count -/
abbrev CT : Type := (Nat → Int32) × (Nat → Int32) × (Nat → Int32) × (Nat → Int32) × (Nat → Int32) × (Nat → Int32) × (Nat → Int32) × Nat
def courtW (o : Nat) (C : CT) : List q_C := [.inr (1, [.ref (o + 1), .ref (o + 2), .ref (o + 3), .ref (o + 4), .ref (o + 5), .ref (o + 6), .ref (o + 7), .int (nI C.2.2.2.2.2.2.2)]), .inl (1, 20, .inl C.1), .inl (1, 20, .inl C.2.1), .inl (1, 20, .inl C.2.2.1), .inl (1, 20, .inl C.2.2.2.1), .inl (1, 20, .inl C.2.2.2.2.1), .inl (1, 20, .inl C.2.2.2.2.2.1), .inl (1, 5, .inl C.2.2.2.2.2.2.1)]
def courtAdd (C : CT) (k o p m v s : Int32) : CT := (upd C.1 C.2.2.2.2.2.2.2 k, upd C.2.1 C.2.2.2.2.2.2.2 o, upd C.2.2.1 C.2.2.2.2.2.2.2 p, upd C.2.2.2.1 C.2.2.2.2.2.2.2 m, upd C.2.2.2.2.1 C.2.2.2.2.2.2.2 v, upd C.2.2.2.2.2.1 C.2.2.2.2.2.2.2 s, C.2.2.2.2.2.2.1, C.2.2.2.2.2.2.2 + 1)
def courtB (C : CT) (g : Nat → Int32) : CT := (C.1, C.2.1, C.2.2.1, C.2.2.2.1, C.2.2.2.2.1, C.2.2.2.2.2.1, g, C.2.2.2.2.2.2.2)
def bndP (C : CT) (L : LT) (on m land day : Int32) (j : Nat) : Bool := decide (C.2.2.1 j = on) && (decide (C.2.2.2.1 j = m) && (decide (C.2.2.2.2.2.1 j ≤ day) && accOn L day land (C.1 j) (C.2.1 j)))
def bndV (C : CT) (L : LT) (on m land day : Int32) : Int32 := match rulO (bndP C L on m land day) C.2.2.2.2.2.2.2 with
  | none => -2
  | some j => C.2.2.2.2.1 j
def unlB (b : Nat → Int32) (i j : Nat) : Bool := decide (¬ b i = -2) && (decide (¬ b j = -2) && decide (¬ b i = b j))
def unlC (b : Nat → Int32) (i : Nat) : Nat → Nat
  | 0 => 0
  | j + 1 => unlC b i j + (if unlB b i j then 1 else 0)
def unlT (b : Nat → Int32) : Nat → Nat
  | 0 => 0
  | i + 1 => unlT b i + unlC b i i
def tX1_isMatter : List q_I := [(0, .iload_n 0, 1, 0, 0), (1, .ifCond .lt 13, 3, 0, 14), (4, .iload_n 0, 1, 0, 0), (5, .bipush 9, 2, 9, 0), (7, .if_icmp .gt 7, 3, 0, 14), (10, .iconst 1, 1, 1, 0), (11, .goto 4, 3, 0, 15), (14, .iconst 0, 1, 0, 0), (15, .ireturn, 1, 0, 0)]
theorem tX1_isMatter_ok : (tX1_isMatter.all (q_okI cX1_isMatter)) = true := by decide +kernel

abbrev fdX1_isMatter : List (Nat ⊕ (Nat × Nat)) := []
def spX1_isMatter : q_P := fun a w K => ∃ (x : Int32), w = [] ∧ a = [.int x] ∧ K (.inl (some (.int (bI (decide (0 ≤ x ∧ x ≤ 9)))))) []
abbrev csX1_isMatter : q_S := (1, 99, 0, 1, 0, 0, fdX1_isMatter, spX1_isMatter)
def EX1_isMatter : q_E := (tX1_isMatter, [], 1, flX1, [], [], [], [], [], [], 0, 0, 0, (some .boolean), [], [], 0, 0)
theorem okX1_isMatter (l : Launch) : q_Eok l RX1 cX1_isMatter EX1_isMatter := ⟨tX1_isMatter_ok, flX1_ok, q_nil, q_nil, q_nil, q_nil, q_nil, q_nil, (fun h => absurd h (by decide))⟩
set_option maxRecDepth 100000 in
set_option maxHeartbeats 4000000 in
theorem ctX1_isMatter (l : Launch) : q_CT l yX1_isMatter (.code yX1_isMatter cX1_isMatter 1 (some .boolean)) 0 0 0 spX1_isMatter := by
  refine q_ct_of EX1_isMatter (by decide +kernel) (okX1_isMatter l) rfl rfl rfl rfl rfl q_nil (fun ci h => by cases h) rfl ?_
  intro a w K h
  obtain ⟨x, rfl, rfl, hK⟩ := h
  refine ⟨Nat.le_of_ble_eq_true rfl, fun C hC => hC _ _ _ _ _ _ ?_⟩
  refine And.intro (fun c => ⟨rfl, ?_⟩) (fun c => And.intro (fun c2 => ⟨rfl, ?_⟩) (fun c2 => ⟨rfl, ?_⟩))
  · rw [bI_f (fun z => Int32.not_le.mpr c z.1)] at hK; exact hK
  · rw [bI_f (fun z => Int32.not_le.mpr c2 z.2)] at hK; exact hK
  · rw [bI_t ⟨Int32.not_lt.mp c, Int32.not_lt.mp c2⟩] at hK; exact hK
def tX1_add : List q_I := [(0, .aload_n 0, 1, 0, 0), (1, .getfield 11, 3, 0, 0), (4, .aload_n 0, 1, 0, 0), (5, .getfield 33, 3, 0, 0), (8, .iload_n 1, 1, 0, 0), (9, .iastore, 1, 0, 0), (10, .aload_n 0, 1, 0, 0), (11, .getfield 15, 3, 0, 0), (14, .aload_n 0, 1, 0, 0), (15, .getfield 33, 3, 0, 0), (18, .iload_n 2, 1, 0, 0), (19, .iastore, 1, 0, 0), (20, .aload_n 0, 1, 0, 0), (21, .getfield 18, 3, 0, 0), (24, .aload_n 0, 1, 0, 0), (25, .getfield 33, 3, 0, 0), (28, .iload_n 3, 1, 0, 0), (29, .iastore, 1, 0, 0), (30, .aload_n 0, 1, 0, 0), (31, .getfield 21, 3, 0, 0), (34, .aload_n 0, 1, 0, 0), (35, .getfield 33, 3, 0, 0), (38, .iload 4, 2, 0, 0), (40, .iastore, 1, 0, 0), (41, .aload_n 0, 1, 0, 0), (42, .getfield 24, 3, 0, 0), (45, .aload_n 0, 1, 0, 0), (46, .getfield 33, 3, 0, 0), (49, .iload 5, 2, 0, 0), (51, .iastore, 1, 0, 0), (52, .aload_n 0, 1, 0, 0), (53, .getfield 27, 3, 0, 0), (56, .aload_n 0, 1, 0, 0), (57, .getfield 33, 3, 0, 0), (60, .iload 6, 2, 0, 0), (62, .iastore, 1, 0, 0), (63, .aload_n 0, 1, 0, 0), (64, .dup, 1, 0, 0), (65, .getfield 33, 3, 0, 0), (68, .iconst 1, 1, 1, 0), (69, .iadd, 1, 0, 0), (70, .putfield 33, 3, 0, 0), (73, .aload_n 0, 1, 0, 0), (74, .getfield 33, 3, 0, 0), (77, .iconst 1, 1, 1, 0), (78, .isub, 1, 0, 0), (79, .ireturn, 1, 0, 0)]
theorem tX1_add_ok : (tX1_add.all (q_okI cX1_add)) = true := by decide +kernel

abbrev fdX1_add : List (Nat ⊕ (Nat × Nat)) := [.inl 0, .inr (0, 0), .inr (0, 1), .inr (0, 2), .inr (0, 3), .inr (0, 4), .inr (0, 5), .inr (0, 6)]
def spX1_add : q_P := fun a w K => ∃ (C : CT) (k o p m v s : Int32), w = courtW 0 C ∧ a = [.ref 0, .int k, .int o, .int p, .int m, .int v, .int s] ∧ C.2.2.2.2.2.2.2 < 20 ∧ K (.inl (some (.int (nI C.2.2.2.2.2.2.2)))) (courtW 0 (courtAdd C k o p m v s))
abbrev csX1_add : q_S := (7, 1, 0, 7, 0, 0, fdX1_add, spX1_add)
def EX1_add : q_E := (tX1_add, [], 7, flX1, [], [], [], [], [], [], 0, 0, 0, (some .int), [], [], 0, 0)
theorem okX1_add (l : Launch) : q_Eok l RX1 cX1_add EX1_add := ⟨tX1_add_ok, flX1_ok, q_nil, q_nil, q_nil, q_nil, q_nil, q_nil, (fun h => absurd h (by decide))⟩
set_option maxRecDepth 100000 in
set_option maxHeartbeats 4000000 in
theorem ctX1_add (l : Launch) : q_CT l yX1_add (.code yX1_add cX1_add 7 (some .int)) 0 0 0 spX1_add := by
  refine q_ct_of EX1_add (by decide +kernel) (okX1_add l) rfl rfl rfl rfl rfl q_nil (fun ci h => by cases h) rfl ?_
  intro a w K h
  obtain ⟨Q, k, o, p, m, v, s, rfl, rfl, hn, hK⟩ := h
  refine ⟨Nat.le_of_ble_eq_true rfl, fun C hC => hC _ _ _ _ _ _ ?_⟩
  have hv : vp_in (nI Q.2.2.2.2.2.2.2) 20 := vp_in_nI hn (by omega)
  have hc : (nI Q.2.2.2.2.2.2.2).toNatClampNeg = Q.2.2.2.2.2.2.2 := nI_clamp (by omega)
  refine ⟨hv, hv, hv, hv, hv, hv, ?_⟩
  show K (.inl (some (.int _))) _
  simp only [hc, nI_1, nI_pred]
  exact hK
def tX1_bindingValue : List q_I := [(0, .aload_n 0, 1, 0, 0), (1, .getfield 33, 3, 0, 0), (4, .iconst 1, 1, 1, 0), (5, .isub, 1, 0, 0), (6, .istore 6, 2, 0, 0), (8, .iload 6, 2, 0, 0), (10, .ifCond .lt 76, 3, 0, 86), (13, .aload_n 0, 1, 0, 0), (14, .getfield 18, 3, 0, 0), (17, .iload 6, 2, 0, 0), (19, .iaload, 1, 0, 0), (20, .iload_n 1, 1, 0, 0), (21, .if_icmp .ne 59, 3, 0, 80), (24, .aload_n 0, 1, 0, 0), (25, .getfield 21, 3, 0, 0), (28, .iload 6, 2, 0, 0), (30, .iaload, 1, 0, 0), (31, .iload_n 2, 1, 0, 0), (32, .if_icmp .ne 48, 3, 0, 80), (35, .aload_n 0, 1, 0, 0), (36, .getfield 27, 3, 0, 0), (39, .iload 6, 2, 0, 0), (41, .iaload, 1, 0, 0), (42, .iload 4, 2, 0, 0), (44, .if_icmp .gt 36, 3, 0, 80), (47, .aload 5, 2, 0, 0), (49, .iload 4, 2, 0, 0), (51, .iload_n 3, 1, 0, 0), (52, .aload_n 0, 1, 0, 0), (53, .getfield 11, 3, 0, 0), (56, .iload 6, 2, 0, 0), (58, .iaload, 1, 0, 0), (59, .aload_n 0, 1, 0, 0), (60, .getfield 15, 3, 0, 0), (63, .iload 6, 2, 0, 0), (65, .iaload, 1, 0, 0), (66, .invokevirtual 37, 3, 0, 0), (69, .ifCond .eq 11, 3, 0, 80), (72, .aload_n 0, 1, 0, 0), (73, .getfield 24, 3, 0, 0), (76, .iload 6, 2, 0, 0), (78, .iaload, 1, 0, 0), (79, .ireturn, 1, 0, 0), (80, .iinc 6 (-1), 3, (-1), 0), (83, .goto (-75), 3, 0, 8), (86, .bipush (-2), 2, (-2), 0), (88, .ireturn, 1, 0, 0)]
theorem tX1_bindingValue_ok : (tX1_bindingValue.all (q_okI cX1_bindingValue)) = true := by decide +kernel

abbrev fdX1_bindingValue : List (Nat ⊕ (Nat × Nat)) := [.inl 0, .inr (0, 0), .inr (0, 1), .inr (0, 2), .inr (0, 3), .inr (0, 4), .inr (0, 5), .inr (0, 6), .inl 5, .inr (8, 0), .inr (8, 1), .inr (8, 2), .inr (8, 3), .inr (8, 4), .inr (8, 5), .inr (8, 6)]
def spX1_bindingValue : q_P := fun a w K => ∃ (C : CT) (L : LT) (on m land day : Int32), w = courtW 0 C ++ lawsW 8 L ∧ a = [.ref 0, .int on, .int m, .int land, .int day, .ref 8] ∧ C.2.2.2.2.2.2.2 ≤ 20 ∧ L_n L ≤ 24 ∧ K (.inl (some (.int (bndV C L on m land day)))) (courtW 0 C ++ lawsW 8 L)
abbrev csX1_bindingValue : q_S := (6, 1, 2, 7, 0, 0, fdX1_bindingValue, spX1_bindingValue)
theorem coX1_37 (l : Launch) : q_CO l RX1 37 csX3_acceptOn := ⟨yX3_acceptOn, cX3_acceptOn, (some .boolean), 4, ⟨by decide +kernel, by decide +kernel, by decide +kernel⟩, q_G_i 4 (by decide +kernel) rfl, Or.inl ⟨by decide, rfl, rfl, q_G_i 1054 (by decide +kernel) rfl, q_G_i 837 (by decide +kernel) rfl, q_G_i 838 (by decide +kernel) rfl, Or.inl ⟨q_G_i 839 (by decide +kernel) rfl, ctX3_acceptOn l⟩⟩⟩
def EX1_bindingValue : q_E := (tX1_bindingValue, [(8, [0, 1, 2, 3, 4, 5, 6])], 7, flX1, [(37, csX3_acceptOn)], [], [], [], [], [], 2, 0, 0, (some .int), [], [], 0, 0)
theorem okX1_bindingValue (l : Launch) : q_Eok l RX1 cX1_bindingValue EX1_bindingValue := ⟨tX1_bindingValue_ok, flX1_ok, List.forall_mem_cons.mpr ⟨(coX1_37 l), q_nil⟩, q_nil, q_nil, q_nil, q_nil, q_nil, (fun h => absurd h (by decide))⟩
set_option maxRecDepth 100000 in
set_option maxHeartbeats 4000000 in
theorem ctX1_bindingValue (l : Launch) : q_CT l yX1_bindingValue (.code yX1_bindingValue cX1_bindingValue 7 (some .int)) 2 0 0 spX1_bindingValue := by
  refine q_ct_of EX1_bindingValue (by decide +kernel) (okX1_bindingValue l) rfl rfl rfl rfl rfl q_nil (fun ci h => by cases h) rfl ?_
  intro a w K h
  obtain ⟨Q, L, on, m, land, day, rfl, rfl, hn, hL, hK⟩ := h
  refine ⟨Nat.le_of_ble_eq_true rfl, fun C hC => ?_⟩
  have loop : ∀ i, i ≤ Q.2.2.2.2.2.2.2 → rulO (bndP Q L on m land day) Q.2.2.2.2.2.2.2 = rulO (bndP Q L on m land day) i → C 8 [(0, .ref 0), (1, .int on), (2, .int m), (3, .int land), (4, .int day), (5, .ref 8), (6, .int (nI i - 1))] [] (courtW 0 Q ++ lawsW 8 L) 0 0 := by
    intro i
    induction i with
    | zero =>
      intro _ h
      refine hC _ _ _ _ _ _ ?_
      refine And.intro (fun c1 => ?_) (fun c1 => absurd (by decide) c1)
      rw [bndV, h] at hK; exact hK
    | succ i ih =>
      intro hi h
      have hv : vp_in (nI i) 20 := vp_in_nI (by omega) (by omega)
      have hc : (nI i).toNatClampNeg = i := nI_clamp (by omega)
      have next : bndP Q L on m land day i = false → C 8 [(0, .ref 0), (1, .int on), (2, .int m), (3, .int land), (4, .int day), (5, .ref 8), (6, .int (nI i + (-1)))] [] (courtW 0 Q ++ lawsW 8 L) 0 0 := by
        intro hP
        rw [← Int32.sub_eq_add_neg]
        exact ih (by omega) (by rw [h, rulO, hP]; rfl)
      rw [nI_pred]
      refine hC _ _ _ _ _ _ ?_
      refine And.intro (fun c1 => absurd c1 (nI_pos (by omega))) (fun c1 => ?_)
      refine And.intro hv (And.intro (fun c2 => next ?_) (fun c2 => ?_))
      · rw [hc] at c2; simp only [bndP, decide_eq_false c2, Bool.false_and]
      refine And.intro hv (And.intro (fun c3 => next ?_) (fun c3 => ?_))
      · rw [hc] at c3; simp only [bndP, decide_eq_false c3, Bool.false_and, Bool.and_false]
      refine And.intro hv (And.intro (fun c4 => next ?_) (fun c4 => ?_))
      · rw [hc] at c4; simp only [bndP, decide_eq_false (Int32.not_le.mpr c4), Bool.false_and, Bool.and_false]
      refine ⟨hv, hv, L, _, _, _, _, rfl, rfl, hL, And.intro (fun c5 => next ?_) (fun c5 => ⟨hv, ?_⟩)⟩
      · have c5 := bI_0.mp c5
        rw [hc] at c5
        simp only [bndP, c5, Bool.and_false]
      · have c5 := bI_n0.mp c5
        rw [hc] at c2 c3 c4 c5
        have hP : bndP Q L on m land day i = true := by simp only [bndP, decide_eq_true c2, decide_eq_true c3, decide_eq_true (Int32.not_lt.mp c4), c5, Bool.and_self]
        rw [bndV, h, rulO, if_pos hP] at hK
        show K (.inl (some (.int _))) _
        rw [hc]
        exact hK
  exact hC _ _ _ _ _ _ (loop _ (Nat.le_refl _) rfl)
def tX1_countUnlike : List q_I := [(0, .iconst 0, 1, 0, 0), (1, .istore 5, 2, 0, 0), (3, .iconst 0, 1, 0, 0), (4, .istore 6, 2, 0, 0), (6, .iload 6, 2, 0, 0), (8, .aload 4, 2, 0, 0), (10, .getfield 43, 3, 0, 0), (13, .iconst 1, 1, 1, 0), (14, .iaload, 1, 0, 0), (15, .if_icmp .ge 96, 3, 0, 111), (18, .iload 6, 2, 0, 0), (20, .iconst 5, 1, 5, 0), (21, .if_icmp .ge 90, 3, 0, 111), (24, .aload_n 0, 1, 0, 0), (25, .getfield 30, 3, 0, 0), (28, .iload 6, 2, 0, 0), (30, .aload_n 0, 1, 0, 0), (31, .iload_n 1, 1, 0, 0), (32, .iload_n 2, 1, 0, 0), (33, .iload 6, 2, 0, 0), (35, .iload_n 3, 1, 0, 0), (36, .aload 4, 2, 0, 0), (38, .getfield 48, 3, 0, 0), (41, .invokevirtual 52, 3, 0, 0), (44, .iastore, 1, 0, 0), (45, .iconst 0, 1, 0, 0), (46, .istore 7, 2, 0, 0), (48, .iload 7, 2, 0, 0), (50, .iload 6, 2, 0, 0), (52, .if_icmp .ge 53, 3, 0, 105), (55, .aload_n 0, 1, 0, 0), (56, .getfield 30, 3, 0, 0), (59, .iload 6, 2, 0, 0), (61, .iaload, 1, 0, 0), (62, .bipush (-2), 2, (-2), 0), (64, .if_icmp .eq 35, 3, 0, 99), (67, .aload_n 0, 1, 0, 0), (68, .getfield 30, 3, 0, 0), (71, .iload 7, 2, 0, 0), (73, .iaload, 1, 0, 0), (74, .bipush (-2), 2, (-2), 0), (76, .if_icmp .eq 23, 3, 0, 99), (79, .aload_n 0, 1, 0, 0), (80, .getfield 30, 3, 0, 0), (83, .iload 6, 2, 0, 0), (85, .iaload, 1, 0, 0), (86, .aload_n 0, 1, 0, 0), (87, .getfield 30, 3, 0, 0), (90, .iload 7, 2, 0, 0), (92, .iaload, 1, 0, 0), (93, .if_icmp .eq 6, 3, 0, 99), (96, .iinc 5 1, 3, 1, 0), (99, .iinc 7 1, 3, 1, 0), (102, .goto (-54), 3, 0, 48), (105, .iinc 6 1, 3, 1, 0), (108, .goto (-102), 3, 0, 6), (111, .iload 5, 2, 0, 0), (113, .ireturn, 1, 0, 0)]
theorem tX1_countUnlike_ok : (tX1_countUnlike.all (q_okI cX1_countUnlike)) = true := by decide +kernel

abbrev fdX1_countUnlike : List (Nat ⊕ (Nat × Nat)) := [.inl 0, .inr (0, 0), .inr (0, 1), .inr (0, 2), .inr (0, 3), .inr (0, 4), .inr (0, 5), .inr (0, 6), .inl 4, .inr (8, 0), .inr (8, 6), .inr (10, 0), .inr (10, 1), .inr (10, 2), .inr (10, 3), .inr (10, 4), .inr (10, 5), .inr (10, 6)]
def spX1_countUnlike : q_P := fun a w K => ∃ (C : CT) (L : LT) (told : Nat → Int32) (n : Nat) (on m day : Int32) (v1 v2 v3 v4 v5 v7 : Value), w = courtW 0 C ++ ([.inr (0, [.ref 9, v1, v2, v3, v4, v5, .ref 10, v7]), .inl (1, 4, .inl told)] ++ lawsW 10 L) ∧ a = [.ref 0, .int on, .int m, .int day, .ref 8] ∧ C.2.2.2.2.2.2.2 ≤ 20 ∧ L_n L ≤ 24 ∧ told 1 = nI n ∧ n ≤ 5 ∧ ∀ g, K (.inl (some (.int (nI (unlT (fun i => bndV C L on m (nI i) day) n))))) (courtW 0 (courtB C g) ++ ([.inr (0, [.ref 9, v1, v2, v3, v4, v5, .ref 10, v7]), .inl (1, 4, .inl told)] ++ lawsW 10 L))
abbrev csX1_countUnlike : q_S := (5, 1, 3, 8, 0, 0, fdX1_countUnlike, spX1_countUnlike)
theorem coX1_52 (l : Launch) : q_CO l RX1 52 csX1_bindingValue := ⟨yX1_bindingValue, cX1_bindingValue, (some .int), 5, ⟨by decide +kernel, by decide +kernel, by decide +kernel⟩, q_G_i 14 (by decide +kernel) rfl, Or.inl ⟨by decide, rfl, rfl, q_G_i 1063 (by decide +kernel) rfl, q_G_i 1051 (by decide +kernel) rfl, q_G_i 1052 (by decide +kernel) rfl, Or.inl ⟨q_G_i 1053 (by decide +kernel) rfl, ctX1_bindingValue l⟩⟩⟩
def EX1_countUnlike : q_E := (tX1_countUnlike, [(6, [0, 1, 2, 3, 4, 5, 6]), (48, [0, 1, 2, 3, 4, 5, 6, 7])], 8, flX1, [(52, csX1_bindingValue)], [], [], [], [], [], 3, 0, 0, (some .int), [], [], 0, 0)
theorem okX1_countUnlike (l : Launch) : q_Eok l RX1 cX1_countUnlike EX1_countUnlike := ⟨tX1_countUnlike_ok, flX1_ok, List.forall_mem_cons.mpr ⟨(coX1_52 l), q_nil⟩, q_nil, q_nil, q_nil, q_nil, q_nil, (fun h => absurd h (by decide))⟩
set_option maxRecDepth 100000 in
set_option maxHeartbeats 4000000 in
theorem ctX1_countUnlike (l : Launch) : q_CT l yX1_countUnlike (.code yX1_countUnlike cX1_countUnlike 8 (some .int)) 3 0 0 spX1_countUnlike := by
  refine q_ct_of EX1_countUnlike (by decide +kernel) (okX1_countUnlike l) rfl rfl rfl rfl rfl q_nil (fun ci h => by cases h) rfl ?_
  intro a w K h
  obtain ⟨Q, L, told, n, on, m, day, v1, v2, v3, v4, v5, v7, rfl, rfl, hn, hL, ht, hn5, hK⟩ := h
  refine ⟨Nat.le_of_ble_eq_true rfl, fun C hC => ?_⟩
  have outer : ∀ k i g, i + k = n → (∀ j, j < i → g j = bndV Q L on m (nI j) day) → C 6 [(0, .ref 0), (1, .int on), (2, .int m), (3, .int day), (4, .ref 8), (5, .int (nI (unlT (fun i => bndV Q L on m (nI i) day) i))), (6, .int (nI i))] [] (courtW 0 (courtB Q g) ++ ([.inr (0, [.ref 9, v1, v2, v3, v4, v5, .ref 10, v7]), .inl (1, 4, .inl told)] ++ lawsW 10 L)) 0 0 := by
    intro k
    induction k with
    | zero =>
      intro i g hi hg
      have hi : i = n := by omega
      subst hi
      refine hC _ _ _ _ _ _ ?_
      refine ⟨vp_in_nI (n := 1) (by decide) (by decide), And.intro (fun c1 => hK g) (fun c1 => absurd (by show told 1 ≤ nI i; rw [ht]; exact Int32.le_refl _) c1)⟩
    | succ k ih =>
      intro i g hi hg
      have hc : (nI i).toNatClampNeg = i := nI_clamp (by omega)
      have hvi : vp_in (nI i) 5 := vp_in_nI (by omega) (by omega)
      refine hC _ _ _ _ _ _ ?_
      refine ⟨vp_in_nI (n := 1) (by decide) (by decide), And.intro (fun c1 => absurd (show told 1 ≤ nI i from c1) (by rw [ht]; exact nI_ge (by omega) (by omega))) (fun c1 => ?_)⟩
      refine And.intro (fun c2 => absurd c2 (nI_ge (b := 5) (by omega) (by omega))) (fun c2 => ?_)
      refine ⟨courtB Q g, L, _, _, _, _, rfl, rfl, hn, hL, hvi, ?_⟩
      have inner : ∀ k j, j + k = i → C 48 [(0, .ref 0), (1, .int on), (2, .int m), (3, .int day), (4, .ref 8), (5, .int (nI (unlT (fun i => bndV Q L on m (nI i) day) i + unlC (fun i => bndV Q L on m (nI i) day) i j))), (6, .int (nI i)), (7, .int (nI j))] [] (courtW 0 (courtB Q (upd g i (bndV Q L on m (nI i) day))) ++ ([.inr (0, [.ref 9, v1, v2, v3, v4, v5, .ref 10, v7]), .inl (1, 4, .inl told)] ++ lawsW 10 L)) 0 0 := by
        intro k2
        induction k2 with
        | zero =>
          intro j hj
          have hj : j = i := by omega
          subst hj
          refine hC _ _ _ _ _ _ ?_
          refine And.intro (fun c3 => ?_) (fun c3 => absurd (Int32.le_refl _) c3)
          have h9 := ih (j + 1) (upd g j (bndV Q L on m (nI j) day)) (by omega) (fun t htj => by
            by_cases e : t = j
            · subst e; exact pk_us
            · rw [pk_un e]; exact hg t (by omega))
          rw [← nI_1] at h9
          exact h9
        | succ k2 ih2 =>
          intro j hj
          have hcj : (nI j).toNatClampNeg = j := nI_clamp (by omega)
          have hvj : vp_in (nI j) 5 := vp_in_nI (by omega) (by omega)
          have gi : upd g i (bndV Q L on m (nI i) day) (nI i).toNatClampNeg = bndV Q L on m (nI i) day := by rw [hc]; exact pk_us
          have gj : upd g i (bndV Q L on m (nI i) day) (nI j).toNatClampNeg = bndV Q L on m (nI j) day := by rw [hcj, pk_un (by omega)]; exact hg j (by omega)
          have nx0 : unlB (fun i => bndV Q L on m (nI i) day) i j = false → C 48 [(0, .ref 0), (1, .int on), (2, .int m), (3, .int day), (4, .ref 8), (5, .int (nI (unlT (fun i => bndV Q L on m (nI i) day) i + unlC (fun i => bndV Q L on m (nI i) day) i j))), (6, .int (nI i)), (7, .int (nI j + 1))] [] (courtW 0 (courtB Q (upd g i (bndV Q L on m (nI i) day))) ++ ([.inr (0, [.ref 9, v1, v2, v3, v4, v5, .ref 10, v7]), .inl (1, 4, .inl told)] ++ lawsW 10 L)) 0 0 := by
            intro hf
            have h9 := ih2 (j + 1) (by omega)
            rw [unlC, hf, ← nI_1 j] at h9
            exact h9
          refine hC _ _ _ _ _ _ ?_
          refine And.intro (fun c3 => absurd c3 (nI_ge (by omega) (by omega))) (fun c3 => ⟨hvi, And.intro (fun c4 => nx0 ?_) (fun c4 => ⟨hvj, And.intro (fun c5 => nx0 ?_) (fun c5 => ⟨hvi, hvj, And.intro (fun c6 => nx0 ?_) (fun c6 => ?_)⟩)⟩)⟩)
          · have c4 : upd g i (bndV Q L on m (nI i) day) (nI i).toNatClampNeg = -2 := c4
            rw [gi] at c4
            simp only [unlB, c4, not_true_eq_false, decide_false, Bool.false_and]
          · have c5 : upd g i (bndV Q L on m (nI i) day) (nI j).toNatClampNeg = -2 := c5
            rw [gj] at c5
            simp only [unlB, c5, not_true_eq_false, decide_false, Bool.false_and, Bool.and_false]
          · have c6 : upd g i (bndV Q L on m (nI i) day) (nI i).toNatClampNeg = upd g i (bndV Q L on m (nI i) day) (nI j).toNatClampNeg := c6
            rw [gi, gj] at c6
            simp only [unlB, c6, not_true_eq_false, decide_false, Bool.false_and, Bool.and_false]
          · have c4 : ¬ upd g i (bndV Q L on m (nI i) day) (nI i).toNatClampNeg = -2 := c4
            have c5 : ¬ upd g i (bndV Q L on m (nI i) day) (nI j).toNatClampNeg = -2 := c5
            have c6 : ¬ upd g i (bndV Q L on m (nI i) day) (nI i).toNatClampNeg = upd g i (bndV Q L on m (nI i) day) (nI j).toNatClampNeg := c6
            rw [gi] at c4 c6
            rw [gj] at c5 c6
            have hb : unlB (fun i => bndV Q L on m (nI i) day) i j = true := by simp only [unlB, decide_eq_true c4, decide_eq_true c5, decide_eq_true c6, Bool.and_self]
            have h9 := ih2 (j + 1) (by omega)
            rw [unlC, hb, if_pos rfl, ← Nat.add_assoc, ← nI_1 (_ + _), ← nI_1 j] at h9
            exact h9
      have h9 := inner i 0 (by omega)
      rw [show upd g i (bndV Q L on m (nI i) day) = upd g (nI i).toNatClampNeg (bndV Q L on m (nI i) day) by rw [hc]] at h9
      exact h9
  exact hC _ _ _ _ _ _ (outer n 0 Q.2.2.2.2.2.2.1 (by omega) (fun j hj => absurd hj (Nat.not_lt_zero j)))
/-- name, price, debt, count -/
abbrev DT : Type := (Nat → Int32) × (Nat → Int32) × (Nat → Int64) × Nat
def ledgerW (o : Nat) (D : DT) : List q_C := [.inr (4, [.ref (o + 1), .ref (o + 2), .ref (o + 3), .int (nI D.2.2.2)]), .inl (1, 10, .inl D.1), .inl (1, 10, .inl D.2.1), .inl (2, 30, .inr D.2.2.1)]
def tX4_clear : List q_I := [(0, .aload_n 0, 1, 0, 0), (1, .iconst 0, 1, 0, 0), (2, .putfield 22, 3, 0, 0), (5, .iconst 0, 1, 0, 0), (6, .istore_n 1, 1, 0, 0), (7, .iload_n 1, 1, 0, 0), (8, .aload_n 0, 1, 0, 0), (9, .getfield 18, 3, 0, 0), (12, .arraylength, 1, 0, 0), (13, .if_icmp .ge 16, 3, 0, 29), (16, .aload_n 0, 1, 0, 0), (17, .getfield 18, 3, 0, 0), (20, .iload_n 1, 1, 0, 0), (21, .lconst 0, 1, 0, 0), (22, .lastore, 1, 0, 0), (23, .iinc 1 1, 3, 1, 0), (26, .goto (-19), 3, 0, 7), (29, .return_, 1, 0, 0)]
theorem tX4_clear_ok : (tX4_clear.all (q_okI cX4_clear)) = true := by decide +kernel

abbrev fdX4_clear : List (Nat ⊕ (Nat × Nat)) := [.inl 0, .inr (0, 0), .inr (0, 1), .inr (0, 2)]
def spX4_clear : q_P := fun a w K => ∃ (D : DT), w = ledgerW 0 D ∧ a = [.ref 0] ∧ K (.inl none) (ledgerW 0 (D.1, D.2.1, zf 0 D.2.2.1 30, 0))
abbrev csX4_clear : q_S := (1, 4, 0, 2, 0, 0, fdX4_clear, spX4_clear)
def EX4_clear : q_E := (tX4_clear, [(7, [0, 1])], 2, flX4, [], [], [], [], [], [], 0, 0, 0, none, [], [], 0, 0)
theorem okX4_clear (l : Launch) : q_Eok l RX4 cX4_clear EX4_clear := ⟨tX4_clear_ok, flX4_ok, q_nil, q_nil, q_nil, q_nil, q_nil, q_nil, (fun h => absurd h (by decide))⟩
set_option maxRecDepth 100000 in
set_option maxHeartbeats 4000000 in
theorem ctX4_clear (l : Launch) : q_CT l yX4_clear (.code yX4_clear cX4_clear 2 none) 0 0 0 spX4_clear := by
  refine q_ct_of EX4_clear (by decide +kernel) (okX4_clear l) rfl rfl rfl rfl rfl q_nil (fun ci h => by cases h) rfl ?_
  intro a w K h
  obtain ⟨D, rfl, rfl, hK⟩ := h
  refine ⟨Nat.le_of_ble_eq_true rfl, fun C hC => ?_⟩
  have loop : ∀ n i, i + n = 30 → C 7 [(0, .ref 0), (1, .int (nI i))] [] (ledgerW 0 (D.1, D.2.1, zf 0 D.2.2.1 i, 0)) 0 0 := by
    intro n
    induction n with
    | zero =>
      intro i hi
      have hi : i = 30 := by omega
      subst hi
      refine hC _ _ _ _ _ _ ?_
      exact ⟨Or.inr (Or.inr (Or.inl rfl)), And.intro (fun c1 => hK) (fun c1 => absurd (Int32.le_refl _) c1)⟩
    | succ n ih =>
      intro i hi
      refine hC _ _ _ _ _ _ ?_
      refine ⟨Or.inr (Or.inr (Or.inl rfl)), And.intro (fun c1 => absurd c1 (nI_ge (b := 30) (by omega) (by omega))) (fun c1 => ⟨vp_in_nI (by omega) (by omega), ?_⟩)⟩
      have h9 := ih (i + 1) (by omega)
      rw [← nI_1, ← zf_sL] at h9
      have hc : (nI i).toNatClampNeg = i := nI_clamp (by omega)
      rw [show vp_updL (zf 0 D.2.2.1 i) i 0 = vp_updL (zf 0 D.2.2.1 i) (nI i).toNatClampNeg 0 by rw [hc]] at h9
      exact h9
  refine hC _ _ _ _ _ _ ?_
  have h9 := loop 30 0 rfl
  rw [zf_0] at h9
  exact h9
def tX4_has : List q_I := [(0, .iload_n 1, 1, 0, 0), (1, .ifCond .lt 15, 3, 0, 16), (4, .iload_n 1, 1, 0, 0), (5, .aload_n 0, 1, 0, 0), (6, .getfield 22, 3, 0, 0), (9, .if_icmp .ge 7, 3, 0, 16), (12, .iconst 1, 1, 1, 0), (13, .goto 4, 3, 0, 17), (16, .iconst 0, 1, 0, 0), (17, .ireturn, 1, 0, 0)]
theorem tX4_has_ok : (tX4_has.all (q_okI cX4_has)) = true := by decide +kernel

abbrev fdX4_has : List (Nat ⊕ (Nat × Nat)) := [.inl 0, .inr (0, 0), .inr (0, 1), .inr (0, 2)]
def spX4_has : q_P := fun a w K => ∃ (D : DT) (x : Int32), w = ledgerW 0 D ∧ a = [.ref 0, .int x] ∧ K (.inl (some (.int (bI (decide (0 ≤ x ∧ x < nI D.2.2.2)))))) (ledgerW 0 D)
abbrev csX4_has : q_S := (2, 4, 0, 2, 0, 0, fdX4_has, spX4_has)
def EX4_has : q_E := (tX4_has, [], 2, flX4, [], [], [], [], [], [], 0, 0, 0, (some .boolean), [], [], 0, 0)
theorem okX4_has (l : Launch) : q_Eok l RX4 cX4_has EX4_has := ⟨tX4_has_ok, flX4_ok, q_nil, q_nil, q_nil, q_nil, q_nil, q_nil, (fun h => absurd h (by decide))⟩
set_option maxRecDepth 100000 in
set_option maxHeartbeats 4000000 in
theorem ctX4_has (l : Launch) : q_CT l yX4_has (.code yX4_has cX4_has 2 (some .boolean)) 0 0 0 spX4_has := by
  refine q_ct_of EX4_has (by decide +kernel) (okX4_has l) rfl rfl rfl rfl rfl q_nil (fun ci h => by cases h) rfl ?_
  intro a w K h
  obtain ⟨D, x, rfl, rfl, hK⟩ := h
  refine ⟨Nat.le_of_ble_eq_true rfl, fun C hC => hC _ _ _ _ _ _ ?_⟩
  refine And.intro (fun c => ⟨rfl, ?_⟩) (fun c => And.intro (fun c2 => ⟨rfl, ?_⟩) (fun c2 => ⟨rfl, ?_⟩))
  · rw [bI_f (fun z => Int32.not_le.mpr c z.1)] at hK; exact hK
  · rw [bI_f (fun z => Int32.not_le.mpr z.2 c2)] at hK; exact hK
  · rw [bI_t ⟨Int32.not_lt.mp c, Int32.not_le.mp c2⟩] at hK; exact hK
def tX4_add : List q_I := [(0, .aload_n 0, 1, 0, 0), (1, .getfield 9, 3, 0, 0), (4, .aload_n 0, 1, 0, 0), (5, .getfield 22, 3, 0, 0), (8, .iload_n 1, 1, 0, 0), (9, .iastore, 1, 0, 0), (10, .aload_n 0, 1, 0, 0), (11, .getfield 13, 3, 0, 0), (14, .aload_n 0, 1, 0, 0), (15, .getfield 22, 3, 0, 0), (18, .iload_n 2, 1, 0, 0), (19, .iastore, 1, 0, 0), (20, .aload_n 0, 1, 0, 0), (21, .dup, 1, 0, 0), (22, .getfield 22, 3, 0, 0), (25, .iconst 1, 1, 1, 0), (26, .iadd, 1, 0, 0), (27, .putfield 22, 3, 0, 0), (30, .aload_n 0, 1, 0, 0), (31, .getfield 22, 3, 0, 0), (34, .iconst 1, 1, 1, 0), (35, .isub, 1, 0, 0), (36, .ireturn, 1, 0, 0)]
theorem tX4_add_ok : (tX4_add.all (q_okI cX4_add)) = true := by decide +kernel

abbrev fdX4_add : List (Nat ⊕ (Nat × Nat)) := [.inl 0, .inr (0, 0), .inr (0, 1), .inr (0, 2)]
def spX4_add : q_P := fun a w K => ∃ (D : DT) (x y : Int32), w = ledgerW 0 D ∧ a = [.ref 0, .int x, .int y] ∧ D.2.2.2 < 10 ∧ K (.inl (some (.int (nI D.2.2.2)))) (ledgerW 0 (upd D.1 D.2.2.2 x, upd D.2.1 D.2.2.2 y, D.2.2.1, D.2.2.2 + 1))
abbrev csX4_add : q_S := (3, 4, 0, 3, 0, 0, fdX4_add, spX4_add)
def EX4_add : q_E := (tX4_add, [], 3, flX4, [], [], [], [], [], [], 0, 0, 0, (some .int), [], [], 0, 0)
theorem okX4_add (l : Launch) : q_Eok l RX4 cX4_add EX4_add := ⟨tX4_add_ok, flX4_ok, q_nil, q_nil, q_nil, q_nil, q_nil, q_nil, (fun h => absurd h (by decide))⟩
set_option maxRecDepth 100000 in
set_option maxHeartbeats 4000000 in
theorem ctX4_add (l : Launch) : q_CT l yX4_add (.code yX4_add cX4_add 3 (some .int)) 0 0 0 spX4_add := by
  refine q_ct_of EX4_add (by decide +kernel) (okX4_add l) rfl rfl rfl rfl rfl q_nil (fun ci h => by cases h) rfl ?_
  intro a w K h
  obtain ⟨D, x, y, rfl, rfl, hn, hK⟩ := h
  refine ⟨Nat.le_of_ble_eq_true rfl, fun C hC => hC _ _ _ _ _ _ ?_⟩
  have hv : vp_in (nI D.2.2.2) 10 := vp_in_nI hn (by omega)
  have hc : (nI D.2.2.2).toNatClampNeg = D.2.2.2 := nI_clamp (by omega)
  refine ⟨hv, hv, ?_⟩
  show K (.inl (some (.int _))) _
  simp only [hc, nI_1, nI_pred]
  exact hK
def tX4_charge : List q_I := [(0, .aload_n 0, 1, 0, 0), (1, .getfield 9, 3, 0, 0), (4, .iload_n 1, 1, 0, 0), (5, .iaload, 1, 0, 0), (6, .istore_n 3, 1, 0, 0), (7, .aload_n 0, 1, 0, 0), (8, .getfield 18, 3, 0, 0), (11, .iload_n 3, 1, 0, 0), (12, .dup2, 1, 0, 0), (13, .laload, 1, 0, 0), (14, .aload_n 0, 1, 0, 0), (15, .getfield 13, 3, 0, 0), (18, .iload_n 1, 1, 0, 0), (19, .iaload, 1, 0, 0), (20, .i2l, 1, 0, 0), (21, .iload_n 2, 1, 0, 0), (22, .i2l, 1, 0, 0), (23, .lmul, 1, 0, 0), (24, .ladd, 1, 0, 0), (25, .lastore, 1, 0, 0), (26, .aload_n 0, 1, 0, 0), (27, .getfield 18, 3, 0, 0), (30, .iload_n 3, 1, 0, 0), (31, .laload, 1, 0, 0), (32, .lreturn, 1, 0, 0)]
theorem tX4_charge_ok : (tX4_charge.all (q_okI cX4_charge)) = true := by decide +kernel

abbrev fdX4_charge : List (Nat ⊕ (Nat × Nat)) := [.inl 0, .inr (0, 0), .inr (0, 1), .inr (0, 2)]
def spX4_charge : q_P := fun a w K => ∃ (D : DT) (i p : Nat) (u : Int32), w = ledgerW 0 D ∧ a = [.ref 0, .int (nI i), .int u] ∧ i < 10 ∧ D.1 i = nI p ∧ p < 30 ∧ K (.inl (some (.long (D.2.2.1 p + (D.2.1 i).toInt64 * u.toInt64)))) (ledgerW 0 (D.1, D.2.1, vp_updL D.2.2.1 p (D.2.2.1 p + (D.2.1 i).toInt64 * u.toInt64), D.2.2.2))
abbrev csX4_charge : q_S := (3, 4, 0, 4, 0, 0, fdX4_charge, spX4_charge)
def EX4_charge : q_E := (tX4_charge, [], 4, flX4, [], [], [], [], [], [], 0, 0, 0, (some .long), [], [], 0, 0)
theorem okX4_charge (l : Launch) : q_Eok l RX4 cX4_charge EX4_charge := ⟨tX4_charge_ok, flX4_ok, q_nil, q_nil, q_nil, q_nil, q_nil, q_nil, (fun h => absurd h (by decide))⟩
set_option maxRecDepth 100000 in
set_option maxHeartbeats 4000000 in
theorem ctX4_charge (l : Launch) : q_CT l yX4_charge (.code yX4_charge cX4_charge 4 (some .long)) 0 0 0 spX4_charge := by
  refine q_ct_of EX4_charge (by decide +kernel) (okX4_charge l) rfl rfl rfl rfl rfl q_nil (fun ci h => by cases h) rfl ?_
  intro a w K h
  obtain ⟨D, i, p, u, rfl, rfl, hi, hp, hpl, hK⟩ := h
  refine ⟨Nat.le_of_ble_eq_true rfl, fun C hC => hC _ _ _ _ _ _ ?_⟩
  have hv : vp_in (nI i) 10 := vp_in_nI hi (by omega)
  have hc : (nI i).toNatClampNeg = i := nI_clamp (by omega)
  have hv2 : vp_in (D.1 (nI i).toNatClampNeg) 30 := by rw [hc, hp]; exact vp_in_nI hpl (by omega)
  have hc2 : (nI p).toNatClampNeg = p := nI_clamp (by omega)
  refine ⟨hv, hv2, hv, hv2, hv2, ?_⟩
  show K (.inl (some (.long _))) _
  simp only [hc, hp, hc2, pk_uLs]
  exact hK
