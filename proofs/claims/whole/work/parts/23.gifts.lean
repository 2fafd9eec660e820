def gcN (G : GT) (g : Nat) : Nat := (G.2.2.2.1 g).toNatClampNeg
def gOk (G : GT) : Prop := G.2.2.2.2.2.2.2.2 ≤ 12 ∧ ∀ g, g < G.2.2.2.2.2.2.2.2 → G.2.2.2.1 g = nI (gcN G g) ∧ gcN G g ≤ 3
theorem gOk_ix {G : GT} (h : gOk G) {g : Nat} (hg : g < G.2.2.2.2.2.2.2.2) : vp_in (nI g) 12 ∧ (nI g).toNatClampNeg = g ∧ G.2.2.2.1 g = nI (gcN G g) ∧ gcN G g ≤ 3 ∧ g < 12 := by
  obtain ⟨h1, h2⟩ := h
  obtain ⟨h3, h4⟩ := h2 g hg
  exact ⟨vp_in_nI (by omega) (by omega), nI_clamp (by omega), h3, h4, by omega⟩

def tX2_hasRoom : List q_I := [(0, .aload_n 0, 1, 0, 0), (1, .getfield 37, 3, 0, 0), (4, .bipush 12, 2, 12, 0), (6, .if_icmp .ge 7, 3, 0, 13), (9, .iconst 1, 1, 1, 0), (10, .goto 4, 3, 0, 14), (13, .iconst 0, 1, 0, 0), (14, .ireturn, 1, 0, 0)]
theorem tX2_hasRoom_ok : (tX2_hasRoom.all (q_okI cX2_hasRoom)) = true := by decide +kernel

abbrev fdX2_hasRoom : List (Nat ⊕ (Nat × Nat)) := [.inl 0, .inr (0, 0), .inr (0, 1), .inr (0, 2), .inr (0, 3), .inr (0, 4), .inr (0, 5), .inr (0, 6), .inr (0, 7)]
def spX2_hasRoom : q_P := fun a w K => ∃ G : GT, w = giftsW 0 G ∧ a = [.ref 0] ∧ G.2.2.2.2.2.2.2.2 ≤ 12 ∧ K (.inl (some (.int (bI (decide (G.2.2.2.2.2.2.2.2 < 12)))))) (giftsW 0 G)
abbrev csX2_hasRoom : q_S := (1, 2, 0, 1, 0, 0, fdX2_hasRoom, spX2_hasRoom)
def EX2_hasRoom : q_E := (tX2_hasRoom, [], 1, flX2, [], [], [], [], [], [], 0, 0, 0, (some .boolean), [], [], 0, 0)
theorem okX2_hasRoom (l : Launch) : q_Eok l RX2 cX2_hasRoom EX2_hasRoom := ⟨tX2_hasRoom_ok, flX2_ok, q_nil, q_nil, q_nil, q_nil, q_nil, q_nil, (fun h => absurd h (by decide))⟩
set_option maxRecDepth 100000 in
set_option maxHeartbeats 4000000 in
theorem ctX2_hasRoom (l : Launch) : q_CT l yX2_hasRoom (.code yX2_hasRoom cX2_hasRoom 1 (some .boolean)) 0 0 0 spX2_hasRoom := by
  refine q_ct_of EX2_hasRoom (by decide +kernel) (okX2_hasRoom l) rfl rfl rfl rfl rfl q_nil (fun ci h => by cases h) rfl ?_
  intro a w K h
  obtain ⟨G, rfl, rfl, hn, hK⟩ := h
  refine ⟨Nat.le_of_ble_eq_true rfl, fun C hC => hC _ _ _ _ _ _ ?_⟩
  refine And.intro (fun c => ⟨rfl, ?_⟩) (fun c => ⟨rfl, ?_⟩)
  · rw [bI_f (fun z => nI_ge (a := G.2.2.2.2.2.2.2.2) (b := 12) z (by omega) c)] at hK; exact hK
  · rw [bI_t (by rcases Nat.lt_or_ge G.2.2.2.2.2.2.2.2 12 with z | z; exact z; exact absurd (nI_le (b := G.2.2.2.2.2.2.2.2) z (by omega)) c)] at hK; exact hK
def giftAdd (G : GT) (k o f : Int32) : GT := (upd G.1 G.2.2.2.2.2.2.2.2 k, upd G.2.1 G.2.2.2.2.2.2.2.2 o, upd G.2.2.1 G.2.2.2.2.2.2.2.2 f, upd G.2.2.2.1 G.2.2.2.2.2.2.2.2 0, G.2.2.2.2.1, G.2.2.2.2.2.1, G.2.2.2.2.2.2.1, G.2.2.2.2.2.2.2.1, G.2.2.2.2.2.2.2.2 + 1)
def giftCase (G : GT) (g : Nat) (s x o : Int32) : GT := (G.1, G.2.1, G.2.2.1, upd G.2.2.2.1 g (nI (gcN G g + 1)), upd G.2.2.2.2.1 (g * 3 + gcN G g) s, upd G.2.2.2.2.2.1 (g * 3 + gcN G g) x, upd G.2.2.2.2.2.2.1 (g * 3 + gcN G g) o, G.2.2.2.2.2.2.2.1, G.2.2.2.2.2.2.2.2)
def tX2_add : List q_I := [(0, .aload_n 0, 1, 0, 0), (1, .getfield 11, 3, 0, 0), (4, .aload_n 0, 1, 0, 0), (5, .getfield 37, 3, 0, 0), (8, .iload_n 1, 1, 0, 0), (9, .iastore, 1, 0, 0), (10, .aload_n 0, 1, 0, 0), (11, .getfield 15, 3, 0, 0), (14, .aload_n 0, 1, 0, 0), (15, .getfield 37, 3, 0, 0), (18, .iload_n 2, 1, 0, 0), (19, .iastore, 1, 0, 0), (20, .aload_n 0, 1, 0, 0), (21, .getfield 18, 3, 0, 0), (24, .aload_n 0, 1, 0, 0), (25, .getfield 37, 3, 0, 0), (28, .iload_n 3, 1, 0, 0), (29, .iastore, 1, 0, 0), (30, .aload_n 0, 1, 0, 0), (31, .getfield 21, 3, 0, 0), (34, .aload_n 0, 1, 0, 0), (35, .getfield 37, 3, 0, 0), (38, .iconst 0, 1, 0, 0), (39, .iastore, 1, 0, 0), (40, .aload_n 0, 1, 0, 0), (41, .dup, 1, 0, 0), (42, .getfield 37, 3, 0, 0), (45, .iconst 1, 1, 1, 0), (46, .iadd, 1, 0, 0), (47, .putfield 37, 3, 0, 0), (50, .return_, 1, 0, 0)]
theorem tX2_add_ok : (tX2_add.all (q_okI cX2_add)) = true := by decide +kernel

abbrev fdX2_add : List (Nat ⊕ (Nat × Nat)) := [.inl 0, .inr (0, 0), .inr (0, 1), .inr (0, 2), .inr (0, 3), .inr (0, 4), .inr (0, 5), .inr (0, 6), .inr (0, 7)]
def spX2_add : q_P := fun a w K => ∃ (G : GT) (k o f : Int32), w = giftsW 0 G ∧ a = [.ref 0, .int k, .int o, .int f] ∧ G.2.2.2.2.2.2.2.2 < 12 ∧ K (.inl none) (giftsW 0 (giftAdd G k o f))
abbrev csX2_add : q_S := (4, 2, 0, 4, 0, 0, fdX2_add, spX2_add)
def EX2_add : q_E := (tX2_add, [], 4, flX2, [], [], [], [], [], [], 0, 0, 0, none, [], [], 0, 0)
theorem okX2_add (l : Launch) : q_Eok l RX2 cX2_add EX2_add := ⟨tX2_add_ok, flX2_ok, q_nil, q_nil, q_nil, q_nil, q_nil, q_nil, (fun h => absurd h (by decide))⟩
set_option maxRecDepth 100000 in
set_option maxHeartbeats 4000000 in
theorem ctX2_add (l : Launch) : q_CT l yX2_add (.code yX2_add cX2_add 4 none) 0 0 0 spX2_add := by
  refine q_ct_of EX2_add (by decide +kernel) (okX2_add l) rfl rfl rfl rfl rfl q_nil (fun ci h => by cases h) rfl ?_
  intro a w K h
  obtain ⟨G, k, o, f, rfl, rfl, hn, hK⟩ := h
  refine ⟨Nat.le_of_ble_eq_true rfl, fun C hC => hC _ _ _ _ _ _ ?_⟩
  have hv : vp_in (nI G.2.2.2.2.2.2.2.2) 12 := vp_in_nI hn (by omega)
  have hc : (nI G.2.2.2.2.2.2.2.2).toNatClampNeg = G.2.2.2.2.2.2.2.2 := nI_clamp (by omega)
  refine ⟨hv, hv, hv, hv, ?_⟩
  show K (.inl none) _
  simp only [hc, nI_1]
  exact hK
def tX2_lastHasCaseRoom : List q_I := [(0, .aload_n 0, 1, 0, 0), (1, .getfield 37, 3, 0, 0), (4, .ifCond .le 22, 3, 0, 26), (7, .aload_n 0, 1, 0, 0), (8, .getfield 21, 3, 0, 0), (11, .aload_n 0, 1, 0, 0), (12, .getfield 37, 3, 0, 0), (15, .iconst 1, 1, 1, 0), (16, .isub, 1, 0, 0), (17, .iaload, 1, 0, 0), (18, .iconst 3, 1, 3, 0), (19, .if_icmp .ge 7, 3, 0, 26), (22, .iconst 1, 1, 1, 0), (23, .goto 4, 3, 0, 27), (26, .iconst 0, 1, 0, 0), (27, .ireturn, 1, 0, 0)]
theorem tX2_lastHasCaseRoom_ok : (tX2_lastHasCaseRoom.all (q_okI cX2_lastHasCaseRoom)) = true := by decide +kernel

abbrev fdX2_lastHasCaseRoom : List (Nat ⊕ (Nat × Nat)) := [.inl 0, .inr (0, 0), .inr (0, 1), .inr (0, 2), .inr (0, 3), .inr (0, 4), .inr (0, 5), .inr (0, 6), .inr (0, 7)]
def spX2_lastHasCaseRoom : q_P := fun a w K => ∃ (G : GT) (g : Nat), w = giftsW 0 G ∧ a = [.ref 0] ∧ gOk G ∧ G.2.2.2.2.2.2.2.2 = g + 1 ∧ K (.inl (some (.int (bI (decide (gcN G g < 3)))))) (giftsW 0 G)
abbrev csX2_lastHasCaseRoom : q_S := (1, 2, 0, 1, 0, 0, fdX2_lastHasCaseRoom, spX2_lastHasCaseRoom)
def EX2_lastHasCaseRoom : q_E := (tX2_lastHasCaseRoom, [], 1, flX2, [], [], [], [], [], [], 0, 0, 0, (some .boolean), [], [], 0, 0)
theorem okX2_lastHasCaseRoom (l : Launch) : q_Eok l RX2 cX2_lastHasCaseRoom EX2_lastHasCaseRoom := ⟨tX2_lastHasCaseRoom_ok, flX2_ok, q_nil, q_nil, q_nil, q_nil, q_nil, q_nil, (fun h => absurd h (by decide))⟩
set_option maxRecDepth 100000 in
set_option maxHeartbeats 4000000 in
theorem ctX2_lastHasCaseRoom (l : Launch) : q_CT l yX2_lastHasCaseRoom (.code yX2_lastHasCaseRoom cX2_lastHasCaseRoom 1 (some .boolean)) 0 0 0 spX2_lastHasCaseRoom := by
  refine q_ct_of EX2_lastHasCaseRoom (by decide +kernel) (okX2_lastHasCaseRoom l) rfl rfl rfl rfl rfl q_nil (fun ci h => by cases h) rfl ?_
  intro a w K h
  obtain ⟨G, g, rfl, rfl, ho, hr, hK⟩ := h
  obtain ⟨h3, h4⟩ := ho.2 g (by omega)
  have h16 := ho.1
  refine ⟨Nat.le_of_ble_eq_true rfl, fun C hC => hC _ _ _ _ _ _ ?_⟩
  have e1 : nI G.2.2.2.2.2.2.2.2 - 1 = nI g := by rw [hr, nI_pred]
  refine And.intro (fun c => absurd c (nI_nle (by omega) (by omega))) (fun c => ⟨by rw [e1]; exact vp_in_nI (by omega) (by omega), ?_⟩)
  have hc : (nI G.2.2.2.2.2.2.2.2 - 1).toNatClampNeg = g := by rw [e1]; exact nI_clamp (by omega)
  refine And.intro (fun c => ⟨rfl, ?_⟩) (fun c => ⟨rfl, ?_⟩)
  · have c : (3 : Int32) ≤ G.2.2.2.1 (nI G.2.2.2.2.2.2.2.2 - 1).toNatClampNeg := c
    rw [hc, h3] at c
    rw [bI_f (fun z => nI_ge (b := 3) z (by omega) c)] at hK; exact hK
  · have c : ¬ (3 : Int32) ≤ G.2.2.2.1 (nI G.2.2.2.2.2.2.2.2 - 1).toNatClampNeg := c
    rw [hc, h3] at c
    rw [bI_t (lt_of_nI (b := 3) (by omega) (by omega) c)] at hK; exact hK
def tX2_addCaseToLast : List q_I := [(0, .aload_n 0, 1, 0, 0), (1, .getfield 37, 3, 0, 0), (4, .iconst 1, 1, 1, 0), (5, .isub, 1, 0, 0), (6, .istore 4, 2, 0, 0), (8, .iload 4, 2, 0, 0), (10, .iconst 3, 1, 3, 0), (11, .imul, 1, 0, 0), (12, .aload_n 0, 1, 0, 0), (13, .getfield 21, 3, 0, 0), (16, .iload 4, 2, 0, 0), (18, .iaload, 1, 0, 0), (19, .iadd, 1, 0, 0), (20, .istore 5, 2, 0, 0), (22, .aload_n 0, 1, 0, 0), (23, .getfield 24, 3, 0, 0), (26, .iload 5, 2, 0, 0), (28, .iload_n 1, 1, 0, 0), (29, .iastore, 1, 0, 0), (30, .aload_n 0, 1, 0, 0), (31, .getfield 27, 3, 0, 0), (34, .iload 5, 2, 0, 0), (36, .iload_n 2, 1, 0, 0), (37, .iastore, 1, 0, 0), (38, .aload_n 0, 1, 0, 0), (39, .getfield 30, 3, 0, 0), (42, .iload 5, 2, 0, 0), (44, .iload_n 3, 1, 0, 0), (45, .iastore, 1, 0, 0), (46, .aload_n 0, 1, 0, 0), (47, .getfield 21, 3, 0, 0), (50, .iload 4, 2, 0, 0), (52, .dup2, 1, 0, 0), (53, .iaload, 1, 0, 0), (54, .iconst 1, 1, 1, 0), (55, .iadd, 1, 0, 0), (56, .iastore, 1, 0, 0), (57, .return_, 1, 0, 0)]
theorem tX2_addCaseToLast_ok : (tX2_addCaseToLast.all (q_okI cX2_addCaseToLast)) = true := by decide +kernel

abbrev fdX2_addCaseToLast : List (Nat ⊕ (Nat × Nat)) := [.inl 0, .inr (0, 0), .inr (0, 1), .inr (0, 2), .inr (0, 3), .inr (0, 4), .inr (0, 5), .inr (0, 6), .inr (0, 7)]
def spX2_addCaseToLast : q_P := fun a w K => ∃ (G : GT) (g : Nat) (s x o : Int32), w = giftsW 0 G ∧ a = [.ref 0, .int s, .int x, .int o] ∧ gOk G ∧ G.2.2.2.2.2.2.2.2 = g + 1 ∧ gcN G g < 3 ∧ K (.inl none) (giftsW 0 (giftCase G g s x o))
abbrev csX2_addCaseToLast : q_S := (4, 2, 0, 6, 0, 0, fdX2_addCaseToLast, spX2_addCaseToLast)
def EX2_addCaseToLast : q_E := (tX2_addCaseToLast, [], 6, flX2, [], [], [], [], [], [], 0, 0, 0, none, [], [], 0, 0)
theorem okX2_addCaseToLast (l : Launch) : q_Eok l RX2 cX2_addCaseToLast EX2_addCaseToLast := ⟨tX2_addCaseToLast_ok, flX2_ok, q_nil, q_nil, q_nil, q_nil, q_nil, q_nil, (fun h => absurd h (by decide))⟩
set_option maxRecDepth 100000 in
set_option maxHeartbeats 4000000 in
theorem ctX2_addCaseToLast (l : Launch) : q_CT l yX2_addCaseToLast (.code yX2_addCaseToLast cX2_addCaseToLast 6 none) 0 0 0 spX2_addCaseToLast := by
  refine q_ct_of EX2_addCaseToLast (by decide +kernel) (okX2_addCaseToLast l) rfl rfl rfl rfl rfl q_nil (fun ci h => by cases h) rfl ?_
  intro a w K h
  obtain ⟨G, g, s, x, o, rfl, rfl, ho, hr, hlt, hK⟩ := h
  obtain ⟨h3, h4⟩ := ho.2 g (by omega)
  have h16 := ho.1
  refine ⟨Nat.le_of_ble_eq_true rfl, fun C hC => hC _ _ _ _ _ _ ?_⟩
  have e1 : nI G.2.2.2.2.2.2.2.2 - 1 = nI g := by rw [hr, nI_pred]
  have hc : (nI G.2.2.2.2.2.2.2.2 - 1).toNatClampNeg = g := by rw [e1]; exact nI_clamp (by omega)
  have hv : vp_in (nI G.2.2.2.2.2.2.2.2 - 1) 12 := by rw [e1]; exact vp_in_nI (by omega) (by omega)
  have e2 : (nI G.2.2.2.2.2.2.2.2 - 1) * 3 + G.2.2.2.1 (nI G.2.2.2.2.2.2.2.2 - 1).toNatClampNeg = nI (g * 3 + gcN G g) := by rw [hc, e1, h3, nI_mul3, nI_add]
  have hv2 : vp_in ((nI G.2.2.2.2.2.2.2.2 - 1) * 3 + G.2.2.2.1 (nI G.2.2.2.2.2.2.2.2 - 1).toNatClampNeg) 36 := by rw [e2]; exact vp_in_nI (by omega) (by omega)
  have hc2 : (nI (g * 3 + gcN G g)).toNatClampNeg = g * 3 + gcN G g := nI_clamp (by omega)
  refine ⟨hv, hv2, hv2, hv2, hv, hv, ?_⟩
  show K (.inl none) _
  simp only [e2]
  simp only [hc2, hc, h3, nI_1]
  exact hK
def casF (G : GT) (P : PT) (k c q : Nat) (b : Int32) : Int32 :=
  if G.2.2.2.2.1 k = 0 then (if P.1 c = G.2.2.2.2.2.1 k then b else 1000000)
  else if G.2.2.2.2.1 k = 1 then (if dayHd P q (G.2.2.2.2.2.1 k) (G.2.2.2.2.2.2.1 k) b = b then b else 1000000)
  else dayHd P c (G.2.2.2.2.2.1 k) (G.2.2.2.2.2.2.1 k) b
def tX2_caseDay : List q_I := [(0, .aload_n 0, 1, 0, 0), (1, .getfield 27, 3, 0, 0), (4, .iload_n 1, 1, 0, 0), (5, .iaload, 1, 0, 0), (6, .istore 6, 2, 0, 0), (8, .aload_n 0, 1, 0, 0), (9, .getfield 24, 3, 0, 0), (12, .iload_n 1, 1, 0, 0), (13, .iaload, 1, 0, 0), (14, .ifCond .ne 22, 3, 0, 36), (17, .aload_n 2, 1, 0, 0), (18, .getfield 69, 3, 0, 0), (21, .iload_n 3, 1, 0, 0), (22, .iaload, 1, 0, 0), (23, .iload 6, 2, 0, 0), (25, .if_icmp .ne 8, 3, 0, 33), (28, .iload 5, 2, 0, 0), (30, .goto 5, 3, 0, 35), (33, .ldc 47, 2, 0, 0), (35, .ireturn, 1, 0, 0), (36, .aload_n 0, 1, 0, 0), (37, .getfield 24, 3, 0, 0), (40, .iload_n 1, 1, 0, 0), (41, .iaload, 1, 0, 0), (42, .iconst 1, 1, 1, 0), (43, .if_icmp .ne 32, 3, 0, 75), (46, .aload_n 2, 1, 0, 0), (47, .iload 4, 2, 0, 0), (49, .iload 6, 2, 0, 0), (51, .aload_n 0, 1, 0, 0), (52, .getfield 30, 3, 0, 0), (55, .iload_n 1, 1, 0, 0), (56, .iaload, 1, 0, 0), (57, .iload 5, 2, 0, 0), (59, .invokevirtual 52, 3, 0, 0), (62, .iload 5, 2, 0, 0), (64, .if_icmp .ne 8, 3, 0, 72), (67, .iload 5, 2, 0, 0), (69, .goto 5, 3, 0, 74), (72, .ldc 47, 2, 0, 0), (74, .ireturn, 1, 0, 0), (75, .aload_n 2, 1, 0, 0), (76, .iload_n 3, 1, 0, 0), (77, .iload 6, 2, 0, 0), (79, .aload_n 0, 1, 0, 0), (80, .getfield 30, 3, 0, 0), (83, .iload_n 1, 1, 0, 0), (84, .iaload, 1, 0, 0), (85, .iload 5, 2, 0, 0), (87, .invokevirtual 52, 3, 0, 0), (90, .ireturn, 1, 0, 0)]
theorem tX2_caseDay_ok : (tX2_caseDay.all (q_okI cX2_caseDay)) = true := by decide +kernel

abbrev fdX2_caseDay : List (Nat ⊕ (Nat × Nat)) := [.inl 0, .inr (0, 0), .inr (0, 1), .inr (0, 2), .inr (0, 3), .inr (0, 4), .inr (0, 5), .inr (0, 6), .inr (0, 7), .inl 2, .inr (9, 0), .inr (9, 1), .inr (9, 2), .inr (9, 3), .inr (9, 4), .inr (9, 5)]
def spX2_caseDay : q_P := fun a w K => ∃ (G : GT) (P : PT) (k c q : Nat) (b : Int32), w = giftsW 0 G ++ peopleW 9 P ∧ a = [.ref 0, .int (nI k), .ref 9, .int (nI c), .int (nI q), .int b] ∧ k < 36 ∧ pOk P ∧ c < P.2.2.2.2.2.2 ∧ q < P.2.2.2.2.2.2 ∧ K (.inl (some (.int (casF G P k c q b)))) (giftsW 0 G ++ peopleW 9 P)
abbrev csX2_caseDay : q_S := (6, 2, 2, 7, 0, 0, fdX2_caseDay, spX2_caseDay)
theorem coX2_52 (l : Launch) : q_CO l RX2 52 csX6_dayHad := ⟨yX6_dayHad, cX6_dayHad, (some .int), 4, ⟨by decide +kernel, by decide +kernel, by decide +kernel⟩, q_G_i 11 (by decide +kernel) rfl, Or.inl ⟨by decide, rfl, rfl, q_G_i 1025 (by decide +kernel) rfl, q_G_i 1026 (by decide +kernel) rfl, q_G_i 1027 (by decide +kernel) rfl, Or.inl ⟨q_G_i 1028 (by decide +kernel) rfl, ctX6_dayHad l⟩⟩⟩
def EX2_caseDay : q_E := (tX2_caseDay, [], 7, flX2, [(52, csX6_dayHad)], [], [(47, 1000000)], [], [], [], 2, 0, 0, (some .int), [], [], 0, 0)
theorem okX2_caseDay (l : Launch) : q_Eok l RX2 cX2_caseDay EX2_caseDay := ⟨tX2_caseDay_ok, flX2_ok, List.forall_mem_cons.mpr ⟨(coX2_52 l), q_nil⟩, q_nil, List.forall_mem_cons.mpr ⟨q_G_i 1016 (by decide +kernel) rfl, q_nil⟩, q_nil, q_nil, q_nil, (fun h => absurd h (by decide))⟩
set_option maxRecDepth 100000 in
set_option maxHeartbeats 4000000 in
theorem ctX2_caseDay (l : Launch) : q_CT l yX2_caseDay (.code yX2_caseDay cX2_caseDay 7 (some .int)) 2 0 0 spX2_caseDay := by
  refine q_ct_of EX2_caseDay (by decide +kernel) (okX2_caseDay l) rfl rfl rfl rfl rfl q_nil (fun ci h => by cases h) rfl ?_
  intro a w K h
  obtain ⟨G, P, k, c, q, b, rfl, rfl, hk, ho, hc, hq, hK⟩ := h
  refine ⟨Nat.le_of_ble_eq_true rfl, fun C hC => hC _ _ _ _ _ _ ?_⟩
  obtain ⟨p1, p2, p3, p4, p5⟩ := pOk_ix ho hc
  have hv : vp_in (nI k) 36 := vp_in_nI hk (by omega)
  have hkc : (nI k).toNatClampNeg = k := nI_clamp (by omega)
  have hK : K (.inl (some (.int (casF G P (nI k).toNatClampNeg c q b)))) (giftsW 0 G ++ peopleW 9 P) := by rw [hkc]; exact hK
  refine ⟨hv, hv, And.intro (fun c1 => ?_) (fun c1 => ?_)⟩
  · rw [casF, if_neg c1] at hK
    refine ⟨hv, And.intro (fun c2 => ?_) (fun c2 => ?_)⟩
    · rw [if_neg c2] at hK
      exact ⟨hv, P, c, _, _, _, rfl, rfl, ho, hc, hK⟩
    · rw [if_pos c2] at hK
      refine ⟨hv, P, q, _, _, _, rfl, rfl, ho, hq, And.intro (fun c3 => ?_) (fun c3 => ?_)⟩
      · rw [if_neg c3] at hK; exact hK
      · rw [if_pos c3] at hK; exact hK
  · rw [casF, if_pos c1] at hK
    refine ⟨p1, And.intro (fun c2 => ?_) (fun c2 => ?_)⟩
    · have c2 : ¬ P.1 (nI c).toNatClampNeg = G.2.2.2.2.2.1 (nI k).toNatClampNeg := c2
      rw [p2] at c2
      rw [if_neg c2] at hK; exact hK
    · have c2 : P.1 (nI c).toNatClampNeg = G.2.2.2.2.2.1 (nI k).toNatClampNeg := c2
      rw [p2] at c2
      rw [if_pos c2] at hK; exact hK
def dueL (G : GT) (P : PT) (g c q : Nat) (b : Int32) : Nat → Nat → Int32 → Int32
  | 0, _, x => x + G.2.2.1 g
  | n + 1, i, x => if casF G P (g * 3 + i) c q b = 1000000 then 1000000 else dueL G P g c q b n (i + 1) (mxI x (casF G P (g * 3 + i) c q b))
def dueF (G : GT) (P : PT) (g c q : Nat) (b : Int32) : Int32 := dueL G P g c q b (gcN G g) 0 b
def tX2_dueDay : List q_I := [(0, .iload 5, 2, 0, 0), (2, .istore 6, 2, 0, 0), (4, .iconst 0, 1, 0, 0), (5, .istore 7, 2, 0, 0), (7, .iload 7, 2, 0, 0), (9, .aload_n 0, 1, 0, 0), (10, .getfield 21, 3, 0, 0), (13, .iload_n 1, 1, 0, 0), (14, .iaload, 1, 0, 0), (15, .if_icmp .ge 46, 3, 0, 61), (18, .aload_n 0, 1, 0, 0), (19, .iload_n 1, 1, 0, 0), (20, .iconst 3, 1, 3, 0), (21, .imul, 1, 0, 0), (22, .iload 7, 2, 0, 0), (24, .iadd, 1, 0, 0), (25, .aload_n 2, 1, 0, 0), (26, .iload_n 3, 1, 0, 0), (27, .iload 4, 2, 0, 0), (29, .iload 5, 2, 0, 0), (31, .invokevirtual 60, 3, 0, 0), (34, .istore 8, 2, 0, 0), (36, .iload 8, 2, 0, 0), (38, .ldc 47, 2, 0, 0), (40, .if_icmp .ne 6, 3, 0, 46), (43, .ldc 47, 2, 0, 0), (45, .ireturn, 1, 0, 0), (46, .iload 6, 2, 0, 0), (48, .iload 8, 2, 0, 0), (50, .invokestatic 63, 3, 0, 0), (53, .istore 6, 2, 0, 0), (55, .iinc 7 1, 3, 1, 0), (58, .goto (-51), 3, 0, 7), (61, .iload 6, 2, 0, 0), (63, .aload_n 0, 1, 0, 0), (64, .getfield 18, 3, 0, 0), (67, .iload_n 1, 1, 0, 0), (68, .iaload, 1, 0, 0), (69, .iadd, 1, 0, 0), (70, .ireturn, 1, 0, 0)]
theorem tX2_dueDay_ok : (tX2_dueDay.all (q_okI cX2_dueDay)) = true := by decide +kernel

abbrev fdX2_dueDay : List (Nat ⊕ (Nat × Nat)) := [.inl 0, .inr (0, 0), .inr (0, 1), .inr (0, 2), .inr (0, 3), .inr (0, 4), .inr (0, 5), .inr (0, 6), .inr (0, 7), .inl 2, .inr (9, 0), .inr (9, 1), .inr (9, 2), .inr (9, 3), .inr (9, 4), .inr (9, 5)]
def spX2_dueDay : q_P := fun a w K => ∃ (G : GT) (P : PT) (g c q : Nat) (b : Int32), w = giftsW 0 G ++ peopleW 9 P ∧ a = [.ref 0, .int (nI g), .ref 9, .int (nI c), .int (nI q), .int b] ∧ gOk G ∧ g < G.2.2.2.2.2.2.2.2 ∧ pOk P ∧ c < P.2.2.2.2.2.2 ∧ q < P.2.2.2.2.2.2 ∧ K (.inl (some (.int (dueF G P g c q b)))) (giftsW 0 G ++ peopleW 9 P)
abbrev csX2_dueDay : q_S := (6, 2, 3, 9, 0, 0, fdX2_dueDay, spX2_dueDay)
theorem coX2_60 (l : Launch) : q_CO l RX2 60 csX2_caseDay := ⟨yX2_caseDay, cX2_caseDay, (some .int), 5, ⟨by decide +kernel, by decide +kernel, by decide +kernel⟩, q_G_i 5 (by decide +kernel) rfl, Or.inl ⟨by decide, rfl, rfl, q_G_i 1021 (by decide +kernel) rfl, q_G_i 1023 (by decide +kernel) rfl, q_G_s (n := 9) 41 (by decide +kernel), Or.inl ⟨q_G_i 1024 (by decide +kernel) rfl, ctX2_caseDay l⟩⟩⟩
def EX2_dueDay : q_E := (tX2_dueDay, [(7, [0, 1, 2, 3, 4, 5, 6, 7])], 9, flX2, [(60, csX2_caseDay)], [], [(47, 1000000)], [], [], [(63, 1)], 3, 0, 0, (some .int), [], [], 0, 0)
theorem okX2_dueDay (l : Launch) : q_Eok l RX2 cX2_dueDay EX2_dueDay := ⟨tX2_dueDay_ok, flX2_ok, List.forall_mem_cons.mpr ⟨(coX2_60 l), q_nil⟩, q_nil, List.forall_mem_cons.mpr ⟨q_G_i 1016 (by decide +kernel) rfl, q_nil⟩, q_nil, List.forall_mem_cons.mpr ⟨Or.inr (Or.inl ⟨rfl, q_G_i 1033 (by decide +kernel) rfl⟩), q_nil⟩, q_nil, (fun h => absurd h (by decide))⟩
set_option maxRecDepth 100000 in
set_option maxHeartbeats 4000000 in
theorem ctX2_dueDay (l : Launch) : q_CT l yX2_dueDay (.code yX2_dueDay cX2_dueDay 9 (some .int)) 3 0 0 spX2_dueDay := by
  refine q_ct_of EX2_dueDay (by decide +kernel) (okX2_dueDay l) rfl rfl rfl rfl rfl q_nil (fun ci h => by cases h) rfl ?_
  intro a w K h
  obtain ⟨G, P, g, c, q, b, rfl, rfl, hgo, hg, ho, hc, hq, hK⟩ := h
  obtain ⟨h1, h2, h3, h4, h5⟩ := gOk_ix hgo hg
  refine ⟨Nat.le_of_ble_eq_true rfl, fun C hC => ?_⟩
  have loop : ∀ k i x, i + k = gcN G g → dueF G P g c q b = dueL G P g c q b k i x → C 7 [(0, .ref 0), (1, .int (nI g)), (2, .ref 9), (3, .int (nI c)), (4, .int (nI q)), (5, .int b), (6, .int x), (7, .int (nI i))] [] (giftsW 0 G ++ peopleW 9 P) 0 0 := by
    intro k
    induction k with
    | zero =>
      intro i x hi he
      refine hC _ _ _ _ _ _ ?_
      refine ⟨h1, And.intro (fun c1 => ⟨h1, ?_⟩) (fun c1 => absurd (by show G.2.2.2.1 (nI g).toNatClampNeg ≤ nI i; rw [h2, h3]; exact nI_le (by omega) (by omega)) c1)⟩
      rw [he, dueL] at hK
      show K (.inl (some (.int _))) _
      rw [h2]; exact hK
    | succ k ih =>
      intro i x hi he
      refine hC _ _ _ _ _ _ ?_
      have e2 : nI g * 3 + nI i = nI (g * 3 + i) := by rw [nI_mul3, nI_add]
      refine ⟨h1, And.intro (fun c1 => absurd (show G.2.2.2.1 (nI g).toNatClampNeg ≤ nI i from c1) (by rw [h2, h3]; exact nI_ge (by omega) (by omega))) (fun c1 => ?_)⟩
      refine ⟨G, P, g * 3 + i, c, q, b, rfl, (by rw [← e2]), by omega, ho, hc, hq, And.intro (fun c2 => ?_) (fun c2 => ?_)⟩
      · have h9 := ih (i + 1) (mxI x (casF G P (g * 3 + i) c q b)) (by omega) (by rw [he, dueL, if_neg c2])
        rw [← nI_1 i] at h9
        exact h9
      · rw [he, dueL, if_pos c2] at hK
        exact hK
  exact hC _ _ _ _ _ _ (loop (gcN G g) 0 b (by omega) rfl)
def gPast (G : GT) (f : Nat → Int32) : GT := (G.1, G.2.1, G.2.2.1, G.2.2.2.1, G.2.2.2.2.1, G.2.2.2.2.2.1, G.2.2.2.2.2.2.1, f, G.2.2.2.2.2.2.2.2)
theorem dueL_p (G : GT) (f : Nat → Int32) (P : PT) (g c q : Nat) (b : Int32) : ∀ n i x, dueL (gPast G f) P g c q b n i x = dueL G P g c q b n i x
  | 0, _, _ => rfl
  | n + 1, i, x => by
    rw [dueL, dueL, dueL_p G f P g c q b n]
    rfl
def gvD (G : GT) (P : PT) (f : Nat → Int32) (c q : Nat) (b : Int32) (g : Nat) : Int32 := if f g = 0 then dueF G P g c q b else 1000000
def gvOne (G : GT) (P : PT) (f : Nat → Int32) (c q : Nat) (b : Int32) (s : Int32 × Int32) (g : Nat) : Int32 × Int32 := if gvD G P f c q b g < s.2 then (nI g, gvD G P f c q b g) else s
def gvN (G : GT) (P : PT) (f : Nat → Int32) (c q : Nat) (b : Int32) : Int32 × Int32 := foldF (gvOne G P f c q b) 0 G.2.2.2.2.2.2.2.2 (-1, 1000)
def gvP (G : GT) (P : PT) (c : Nat) (b : Int32) (g : Nat) (d : Int32) : PT := if d < dayHd P c (G.1 g) (G.2.1 g) b then peopleGive P c (G.1 g) (G.2.1 g) d 999 else P
def gvR (G : GT) (c q : Nat) (b : Int32) : Nat → PT → (Nat → Int32) → PT
  | 0, P, _ => P
  | k + 1, P, f => if pcN P c < 8 then (if (gvN G P f c q b).1 = -1 then P else gvR G c q b k (gvP G P c b (gvN G P f c q b).1.toNatClampNeg (gvN G P f c q b).2) (upd f (gvN G P f c q b).1.toNatClampNeg 1)) else P
theorem gvN_lt (G : GT) (P : PT) (f : Nat → Int32) (c q : Nat) (b : Int32) : (gvN G P f c q b).1 = -1 ∨ ∃ g, (gvN G P f c q b).1 = nI g ∧ g < G.2.2.2.2.2.2.2.2 := by
  refine foldF_inv (I := fun s : Int32 × Int32 => s.1 = -1 ∨ ∃ g, s.1 = nI g ∧ g < G.2.2.2.2.2.2.2.2) _ 0 _ (Or.inl rfl) (fun y k hy _ hk => ?_)
  rw [gvOne]
  split
  · exact Or.inr ⟨k, rfl, by omega⟩
  · exact hy
theorem pOk_give {P : PT} {p : Nat} {k o f t : Int32} (h : pOk P) (hp : p < P.2.2.2.2.2.2) (hl : pcN P p < 8) : pOk (peopleGive P p k o f t) := by
  refine ⟨h.1, fun x hx => ?_⟩
  by_cases e : x = p
  · subst e
    have e1 : (peopleGive P x k o f t).2.1 x = nI (pcN P x + 1) := pk_us
    have e2 : pcN (peopleGive P x k o f t) x = pcN P x + 1 := by rw [pcN, e1]; exact nI_clamp (by omega)
    rw [e1, e2]
    exact ⟨rfl, by omega⟩
  · have e1 : (peopleGive P p k o f t).2.1 x = P.2.1 x := pk_un e
    have e2 : pcN (peopleGive P p k o f t) x = pcN P x := by rw [pcN, e1]; rfl
    rw [e1, e2]
    exact h.2 x hx
theorem pOk_gvP {G : GT} {P : PT} {c : Nat} {b : Int32} {g : Nat} {d : Int32} (h : pOk P) (hp : c < P.2.2.2.2.2.2) (hl : pcN P c < 8) : pOk (gvP G P c b g d) ∧ (gvP G P c b g d).2.2.2.2.2.2 = P.2.2.2.2.2.2 := by
  rw [gvP]
  split
  · exact ⟨pOk_give h hp hl, rfl⟩
  · exact ⟨h, rfl⟩
def tX2_giveAll : List q_I := [(0, .iconst 0, 1, 0, 0), (1, .istore 5, 2, 0, 0), (3, .iload 5, 2, 0, 0), (5, .aload_n 0, 1, 0, 0), (6, .getfield 37, 3, 0, 0), (9, .if_icmp .ge 17, 3, 0, 26), (12, .aload_n 0, 1, 0, 0), (13, .getfield 33, 3, 0, 0), (16, .iload 5, 2, 0, 0), (18, .iconst 0, 1, 0, 0), (19, .bastore, 1, 0, 0), (20, .iinc 5 1, 3, 1, 0), (23, .goto (-20), 3, 0, 3), (26, .iconst 0, 1, 0, 0), (27, .istore 5, 2, 0, 0), (29, .iload 5, 2, 0, 0), (31, .aload_n 0, 1, 0, 0), (32, .getfield 37, 3, 0, 0), (35, .if_icmp .ge 151, 3, 0, 186), (38, .aload_n 1, 1, 0, 0), (39, .iload_n 2, 1, 0, 0), (40, .invokevirtual 41, 3, 0, 0), (43, .ifCond .eq 143, 3, 0, 186), (46, .iconst (-1), 1, (-1), 0), (47, .istore 6, 2, 0, 0), (49, .sipush 1000, 3, 1000, 0), (52, .istore 7, 2, 0, 0), (54, .iconst 0, 1, 0, 0), (55, .istore 8, 2, 0, 0), (57, .iload 8, 2, 0, 0), (59, .aload_n 0, 1, 0, 0), (60, .getfield 37, 3, 0, 0), (63, .if_icmp .ge 52, 3, 0, 115), (66, .aload_n 0, 1, 0, 0), (67, .getfield 33, 3, 0, 0), (70, .iload 8, 2, 0, 0), (72, .baload, 1, 0, 0), (73, .ifCond .eq 8, 3, 0, 81), (76, .ldc 47, 2, 0, 0), (78, .goto 14, 3, 0, 92), (81, .aload_n 0, 1, 0, 0), (82, .iload 8, 2, 0, 0), (84, .aload_n 1, 1, 0, 0), (85, .iload_n 2, 1, 0, 0), (86, .iload_n 3, 1, 0, 0), (87, .iload 4, 2, 0, 0), (89, .invokevirtual 48, 3, 0, 0), (92, .istore 9, 2, 0, 0), (94, .iload 9, 2, 0, 0), (96, .iload 7, 2, 0, 0), (98, .if_icmp .ge 11, 3, 0, 109), (101, .iload 8, 2, 0, 0), (103, .istore 6, 2, 0, 0), (105, .iload 9, 2, 0, 0), (107, .istore 7, 2, 0, 0), (109, .iinc 8 1, 3, 1, 0), (112, .goto (-55), 3, 0, 57), (115, .iload 6, 2, 0, 0), (117, .iconst (-1), 1, (-1), 0), (118, .if_icmp .ne 4, 3, 0, 122), (121, .return_, 1, 0, 0), (122, .aload_n 0, 1, 0, 0), (123, .getfield 33, 3, 0, 0), (126, .iload 6, 2, 0, 0), (128, .iconst 1, 1, 1, 0), (129, .bastore, 1, 0, 0), (130, .aload_n 1, 1, 0, 0), (131, .iload_n 2, 1, 0, 0), (132, .aload_n 0, 1, 0, 0), (133, .getfield 11, 3, 0, 0), (136, .iload 6, 2, 0, 0), (138, .iaload, 1, 0, 0), (139, .aload_n 0, 1, 0, 0), (140, .getfield 15, 3, 0, 0), (143, .iload 6, 2, 0, 0), (145, .iaload, 1, 0, 0), (146, .iload 4, 2, 0, 0), (148, .invokevirtual 52, 3, 0, 0), (151, .iload 7, 2, 0, 0), (153, .if_icmp .le 27, 3, 0, 180), (156, .aload_n 1, 1, 0, 0), (157, .iload_n 2, 1, 0, 0), (158, .aload_n 0, 1, 0, 0), (159, .getfield 11, 3, 0, 0), (162, .iload 6, 2, 0, 0), (164, .iaload, 1, 0, 0), (165, .aload_n 0, 1, 0, 0), (166, .getfield 15, 3, 0, 0), (169, .iload 6, 2, 0, 0), (171, .iaload, 1, 0, 0), (172, .iload 7, 2, 0, 0), (174, .sipush 999, 3, 999, 0), (177, .invokevirtual 56, 3, 0, 0), (180, .iinc 5 1, 3, 1, 0), (183, .goto (-154), 3, 0, 29), (186, .return_, 1, 0, 0)]
theorem tX2_giveAll_ok : (tX2_giveAll.all (q_okI cX2_giveAll)) = true := by decide +kernel

abbrev fdX2_giveAll : List (Nat ⊕ (Nat × Nat)) := [.inl 0, .inr (0, 0), .inr (0, 1), .inr (0, 2), .inr (0, 3), .inr (0, 4), .inr (0, 5), .inr (0, 6), .inr (0, 7), .inl 1, .inr (9, 0), .inr (9, 1), .inr (9, 2), .inr (9, 3), .inr (9, 4), .inr (9, 5)]
def spX2_giveAll : q_P := fun a w K => ∃ (G : GT) (P : PT) (c q : Nat) (b : Int32), w = giftsW 0 G ++ peopleW 9 P ∧ a = [.ref 0, .ref 9, .int (nI c), .int (nI q), .int b] ∧ gOk G ∧ pOk P ∧ c < P.2.2.2.2.2.2 ∧ q < P.2.2.2.2.2.2 ∧ ∀ f, K (.inl none) (giftsW 0 (gPast G f) ++ peopleW 9 (gvR G c q b G.2.2.2.2.2.2.2.2 P (zf 0 G.2.2.2.2.2.2.2.1 G.2.2.2.2.2.2.2.2)))
abbrev csX2_giveAll : q_S := (5, 2, 4, 10, 0, 0, fdX2_giveAll, spX2_giveAll)
theorem coX2_41 (l : Launch) : q_CO l RX2 41 csX6_hasPaperRoom := ⟨yX6_hasPaperRoom, cX6_hasPaperRoom, (some .boolean), 1, ⟨by decide +kernel, by decide +kernel, by decide +kernel⟩, q_G_i 11 (by decide +kernel) rfl, Or.inl ⟨by decide, rfl, rfl, q_G_i 1015 (by decide +kernel) rfl, q_G_i 793 (by decide +kernel) rfl, q_G_i 794 (by decide +kernel) rfl, Or.inl ⟨q_G_i 795 (by decide +kernel) rfl, ctX6_hasPaperRoom l⟩⟩⟩
theorem coX2_48 (l : Launch) : q_CO l RX2 48 csX2_dueDay := ⟨yX2_dueDay, cX2_dueDay, (some .int), 5, ⟨by decide +kernel, by decide +kernel, by decide +kernel⟩, q_G_i 5 (by decide +kernel) rfl, Or.inl ⟨by decide, rfl, rfl, q_G_i 1017 (by decide +kernel) rfl, q_G_i 1019 (by decide +kernel) rfl, q_G_s (n := 9) 40 (by decide +kernel), Or.inl ⟨q_G_i 1020 (by decide +kernel) rfl, ctX2_dueDay l⟩⟩⟩
theorem coX2_56 (l : Launch) : q_CO l RX2 56 csX6_give := ⟨yX6_give, cX6_give, none, 5, ⟨by decide +kernel, by decide +kernel, by decide +kernel⟩, q_G_i 11 (by decide +kernel) rfl, Or.inl ⟨by decide, rfl, rfl, q_G_i 1034 (by decide +kernel) rfl, q_G_i 797 (by decide +kernel) rfl, q_G_i 798 (by decide +kernel) rfl, Or.inl ⟨q_G_i 799 (by decide +kernel) rfl, ctX6_give l⟩⟩⟩
def EX2_giveAll : q_E := (tX2_giveAll, [(3, [0, 1, 2, 3, 4, 5]), (29, [0, 1, 2, 3, 4, 5]), (57, [0, 1, 2, 3, 4, 5, 6, 7, 8])], 10, flX2, [(41, csX6_hasPaperRoom), (48, csX2_dueDay), (52, csX6_dayHad), (56, csX6_give)], [], [(47, 1000000)], [], [], [], 4, 0, 0, none, [], [], 0, 0)
theorem okX2_giveAll (l : Launch) : q_Eok l RX2 cX2_giveAll EX2_giveAll := ⟨tX2_giveAll_ok, flX2_ok, List.forall_mem_cons.mpr ⟨(coX2_41 l), List.forall_mem_cons.mpr ⟨(coX2_48 l), List.forall_mem_cons.mpr ⟨(coX2_52 l), List.forall_mem_cons.mpr ⟨(coX2_56 l), q_nil⟩⟩⟩⟩, q_nil, List.forall_mem_cons.mpr ⟨q_G_i 1016 (by decide +kernel) rfl, q_nil⟩, q_nil, q_nil, q_nil, (fun h => absurd h (by decide))⟩
set_option maxRecDepth 100000 in
set_option maxHeartbeats 4000000 in
theorem ctX2_giveAll (l : Launch) : q_CT l yX2_giveAll (.code yX2_giveAll cX2_giveAll 10 none) 4 0 0 spX2_giveAll := by
  refine q_ct_of EX2_giveAll (by decide +kernel) (okX2_giveAll l) rfl rfl rfl rfl rfl q_nil (fun ci h => by cases h) rfl ?_
  intro a w K h
  obtain ⟨G, P0, c, q, b, rfl, rfl, hgo, ho0, hc0, hq0, hK⟩ := h
  have hgn := hgo.1
  refine ⟨Nat.le_of_ble_eq_true rfl, fun C hC => ?_⟩
  have rounds : ∀ k i P f, i + k = G.2.2.2.2.2.2.2.2 → pOk P → c < P.2.2.2.2.2.2 → q < P.2.2.2.2.2.2 → gvR G c q b G.2.2.2.2.2.2.2.2 P0 (zf 0 G.2.2.2.2.2.2.2.1 G.2.2.2.2.2.2.2.2) = gvR G c q b k P f → C 29 [(0, .ref 0), (1, .ref 9), (2, .int (nI c)), (3, .int (nI q)), (4, .int b), (5, .int (nI i))] [] (giftsW 0 (gPast G f) ++ peopleW 9 P) 0 0 := by
    intro k
    induction k with
    | zero =>
      intro i P f hi ho hc hq he
      refine hC _ _ _ _ _ _ ?_
      refine And.intro (fun c1 => ?_) (fun c1 => absurd (nI_le (b := i) (a := G.2.2.2.2.2.2.2.2) (by omega) (by omega)) c1)
      have h9 := hK f
      rw [he, gvR] at h9
      exact h9
    | succ k ih =>
      intro i P f hi ho hc hq he
      refine hC _ _ _ _ _ _ ?_
      refine And.intro (fun c1 => absurd c1 (nI_ge (b := G.2.2.2.2.2.2.2.2) (by omega) (by omega))) (fun c1 => ?_)
      refine ⟨P, c, rfl, rfl, ho, hc, And.intro (fun c2 => ?_) (fun c2 => ?_)⟩
      · have h9 := hK f
        rw [he, gvR, if_neg (of_decide_eq_false (bI_0.mp c2))] at h9
        exact h9
      · have c2 : pcN P c < 8 := of_decide_eq_true (bI_n0.mp c2)
        rw [gvR, if_pos c2] at he
        have inner : ∀ k2 j s, j + k2 = G.2.2.2.2.2.2.2.2 → gvN G P f c q b = foldF (gvOne G P f c q b) j k2 s → C 57 [(0, .ref 0), (1, .ref 9), (2, .int (nI c)), (3, .int (nI q)), (4, .int b), (5, .int (nI i)), (6, .int s.1), (7, .int s.2), (8, .int (nI j))] [] (giftsW 0 (gPast G f) ++ peopleW 9 P) 0 0 := by
          intro k2
          induction k2 with
          | zero =>
            intro j s hj hs
            rw [foldF] at hs
            refine hC _ _ _ _ _ _ ?_
            refine And.intro (fun c3 => And.intro (fun c4 => ?_) (fun c4 => ?_)) (fun c3 => absurd (nI_le (b := j) (a := G.2.2.2.2.2.2.2.2) (by omega) (by omega)) c3)
            · have c4 : ¬ s.1 = -1 := c4
              have hl := gvN_lt G P f c q b
              rw [hs] at hl he
              rw [if_neg c4] at he
              obtain ⟨g, hg, hgl⟩ := hl.resolve_left c4
              have hgc : s.1.toNatClampNeg = g := by rw [hg]; exact nI_clamp (by omega)
              have hv : vp_in s.1 12 := by rw [hg]; exact vp_in_nI (by omega) (by omega)
              obtain ⟨o1, o2⟩ := pOk_gvP (G := G) (b := b) (g := s.1.toNatClampNeg) (d := s.2) ho hc c2
              have h9 := ih (i + 1) _ _ (by omega) o1 (by rw [o2]; exact hc) (by rw [o2]; exact hq) he
              rw [← nI_1 i] at h9
              refine ⟨hv, hv, hv, P, c, _, _, _, rfl, rfl, ho, hc, And.intro (fun c5 => ?_) (fun c5 => ⟨hv, hv, P, c, _, _, _, _, rfl, rfl, ho, hc, c2, ?_⟩)⟩
              · have c5 : dayHd P c (G.1 s.1.toNatClampNeg) (G.2.1 s.1.toNatClampNeg) b ≤ s.2 := c5
                rw [gvP, if_neg (Int32.not_lt.mpr c5)] at h9
                exact h9
              · have c5 : ¬ dayHd P c (G.1 s.1.toNatClampNeg) (G.2.1 s.1.toNatClampNeg) b ≤ s.2 := c5
                rw [gvP, if_pos (Int32.not_le.mp c5)] at h9
                exact h9
            · have c4 : s.1 = -1 := c4
              rw [hs, if_pos c4] at he
              have h9 := hK f
              rw [he] at h9
              exact h9
          | succ k2 ih2 =>
            intro j s hj hs
            rw [foldF] at hs
            have hjl : j < G.2.2.2.2.2.2.2.2 := by omega
            have hcj : (nI j).toNatClampNeg = j := nI_clamp (by omega)
            have hv : vp_in (nI j) 12 := vp_in_nI (by omega) (by omega)
            refine hC _ _ _ _ _ _ ?_
            refine And.intro (fun c3 => absurd c3 (nI_ge (b := G.2.2.2.2.2.2.2.2) (by omega) (by omega))) (fun c3 => ⟨hv, And.intro (fun c4 => ?_) (fun c4 => ?_)⟩)
            · have c4 : f (nI j).toNatClampNeg = 0 := c4
              rw [hcj] at c4
              have e4 : gvD G P f c q b j = dueF (gPast G f) P j c q b := by rw [gvD, if_pos c4]; exact (dueL_p G f P j c q b _ _ _).symm
              refine ⟨gPast G f, P, j, c, q, b, rfl, rfl, hgo, hjl, ho, hc, hq, ?_⟩
              rw [← e4]
              refine And.intro (fun c5 => ?_) (fun c5 => ?_)
              · rw [gvOne, if_neg (Int32.not_lt.mpr c5)] at hs
                have h9 := ih2 (j + 1) s (by omega) hs
                rw [← nI_1 j] at h9
                exact h9
              · rw [gvOne, if_pos (Int32.not_le.mp c5)] at hs
                have h9 := ih2 (j + 1) _ (by omega) hs
                rw [← nI_1 j] at h9
                exact h9
            · have c4 : ¬ f (nI j).toNatClampNeg = 0 := c4
              rw [hcj] at c4
              have e4 : gvD G P f c q b j = 1000000 := by rw [gvD, if_neg c4]
              rw [gvOne, e4] at hs
              refine And.intro (fun c5 => ?_) (fun c5 => ?_)
              · rw [if_neg (Int32.not_lt.mpr c5)] at hs
                have h9 := ih2 (j + 1) s (by omega) hs
                rw [← nI_1 j] at h9
                exact h9
              · rw [if_pos (Int32.not_le.mp c5)] at hs
                have h9 := ih2 (j + 1) _ (by omega) hs
                rw [← nI_1 j] at h9
                exact h9
        exact inner G.2.2.2.2.2.2.2.2 0 (-1, 1000) (by omega) rfl
  have clr : ∀ k i, i + k = G.2.2.2.2.2.2.2.2 → C 3 [(0, .ref 0), (1, .ref 9), (2, .int (nI c)), (3, .int (nI q)), (4, .int b), (5, .int (nI i))] [] (giftsW 0 (gPast G (zf 0 G.2.2.2.2.2.2.2.1 i)) ++ peopleW 9 P0) 0 0 := by
    intro k
    induction k with
    | zero =>
      intro i hi
      have hi : i = G.2.2.2.2.2.2.2.2 := by omega
      subst hi
      refine hC _ _ _ _ _ _ ?_
      refine And.intro (fun c1 => ?_) (fun c1 => absurd (Int32.le_refl _) c1)
      exact rounds G.2.2.2.2.2.2.2.2 0 P0 _ (by omega) ho0 hc0 hq0 rfl
    | succ k ih =>
      intro i hi
      have hci : (nI i).toNatClampNeg = i := nI_clamp (by omega)
      refine hC _ _ _ _ _ _ ?_
      refine And.intro (fun c1 => absurd c1 (nI_ge (b := G.2.2.2.2.2.2.2.2) (by omega) (by omega))) (fun c1 => ⟨vp_in_nI (by omega) (by omega), ?_⟩)
      have h9 := ih (i + 1) (by omega)
      rw [← nI_1, ← zf_s] at h9
      have e1 : ∀ (f : Nat → Int32) (z : Int32), upd f i z = upd f (nI i).toNatClampNeg z := fun f z => by rw [hci]
      rw [e1] at h9
      exact h9
  have h9 := clr G.2.2.2.2.2.2.2.2 0 (by omega)
  rw [zf_0] at h9
  exact hC _ _ _ _ _ _ h9
