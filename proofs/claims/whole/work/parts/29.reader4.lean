/-- in order, and the text ends at e -/
def nE (e : Nat) (N : NT) : Prop := nOk N ∧ N.2.2.1 = e
def zE (e : Nat) (Z : ZT) : Prop := nE e Z.1 ∧ Z.2.1.2.2.2.2 ≤ 25 ∧ rOk Z.2.2.1 ∧ L_n Z.2.2.2.1 ≤ 24 ∧ gOk Z.2.2.2.2
theorem zE.ok {e : Nat} {Z : ZT} (h : zE e Z) : zOk Z := ⟨h.1.1, h.2⟩
theorem nE_step {tx : Nat → Int32} {e : Nat} {N : NT} (h : nE e N) : nE e (stepF tx N) := ⟨(stepF_ok h.1).1, (stepF_ok h.1).2.trans h.2⟩
theorem nE_use {tx : Nat → Int32} {e : Nat} {B : BT} {N : NT} {s : Int32} (h : nE e N) : nE e (useF tx B N s).2 := by
  unfold useF
  split
  · split
    · exact h
    · split
      · exact nE_step h
      · exact h
  · exact h
theorem nE_num {tx : Nat → Int32} {e : Nat} {N : NT} {a b : Int32} (h : nE e N) : nE e (numF tx N a b).2 := by
  unfold numF
  split
  · split
    · exact h
    · exact nE_step h
  · exact h
theorem kwUseK_mono {tx : Nat → Int32} {e : Nat} {B : BT} {t : Nat} {s : Int32} {u : Int32 × NT} {k k' : Int32 → NT → Prop} (hu : nE e u.2) (h : ∀ v N, nE e N → k v N → k' v N) (hk : kwUseK tx B t s u k) : kwUseK tx B t s u k' := by
  unfold kwUseK at hk ⊢
  split
  · next c => rw [if_pos c] at hk; exact h _ _ hu hk
  · next c =>
    rw [if_neg c] at hk
    split
    · next c2 => rw [if_pos c2] at hk; exact h _ _ (nE_use (nE_step hu)) hk
    · next c2 => rw [if_neg c2] at hk; exact h _ (failF u.2 1) hu hk
theorem kwNumK_mono {tx : Nat → Int32} {e : Nat} {t : Nat} {a b u : Int32} {N : NT} {k k' : Int32 → NT → Prop} (hu : nE e N) (h : ∀ v N, nE e N → k v N → k' v N) (hk : kwNumK tx t a b u N k) : kwNumK tx t a b u N k' := by
  unfold kwNumK at hk ⊢
  split
  · next c => rw [if_pos c] at hk; exact h _ _ hu hk
  · next c =>
    rw [if_neg c] at hk
    split
    · next c2 => rw [if_pos c2] at hk; exact h _ _ (nE_num (nE_step hu)) hk
    · next c2 => rw [if_neg c2] at hk; exact h _ (failF N 1) hu hk
theorem rOk_post {R : RT} {r : Nat} {a b : Int32} (h : rOk R) (hr : r < R.2.2.2.2.2.2.2) (hl : rpN R r < 3) : rOk (roadPost R r a b) := by
  refine ⟨h.1, fun x hx => ?_⟩
  by_cases e : x = r
  · subst e
    have e1 : (roadPost R x a b).2.2.2.2.1 x = nI (rpN R x + 1) := pk_us
    have e2 : rpN (roadPost R x a b) x = rpN R x + 1 := by rw [rpN, e1]; exact nI_clamp (by omega)
    rw [e1, e2]
    exact ⟨rfl, by omega⟩
  · have e1 : (roadPost R r a b).2.2.2.2.1 x = R.2.2.2.2.1 x := pk_un e
    have e2 : rpN (roadPost R r a b) x = rpN R x := by rw [rpN, e1]; rfl
    rw [e1, e2]
    exact h.2 x hx
theorem rOk_add {R : RT} {x y d c : Int32} (h : rOk R) (hl : R.2.2.2.2.2.2.2 < 16) : rOk (roadAdd R x y d c) := by
  refine ⟨hl, fun r hr => ?_⟩
  by_cases e : r = R.2.2.2.2.2.2.2
  · have e1 : (roadAdd R x y d c).2.2.2.2.1 r = 0 := by rw [e]; exact pk_us
    have e2 : rpN (roadAdd R x y d c) r = 0 := by rw [rpN, e1]; rfl
    rw [e1, e2]
    exact ⟨rfl, by omega⟩
  · have hr : r < R.2.2.2.2.2.2.2 + 1 := hr
    have e1 : (roadAdd R x y d c).2.2.2.2.1 r = R.2.2.2.2.1 r := pk_un e
    have e2 : rpN (roadAdd R x y d c) r = rpN R r := by rw [rpN, e1]; rfl
    rw [e1, e2]
    exact h.2 r (by omega)
theorem gOk_case {G : GT} {g : Nat} {s x o : Int32} (h : gOk G) (hg : g < G.2.2.2.2.2.2.2.2) (hl : gcN G g < 3) : gOk (giftCase G g s x o) := by
  refine ⟨h.1, fun j hj => ?_⟩
  by_cases e : j = g
  · subst e
    have e1 : (giftCase G j s x o).2.2.2.1 j = nI (gcN G j + 1) := pk_us
    have e2 : gcN (giftCase G j s x o) j = gcN G j + 1 := by rw [gcN, e1]; exact nI_clamp (by omega)
    rw [e1, e2]
    exact ⟨rfl, by omega⟩
  · have e1 : (giftCase G g s x o).2.2.2.1 j = G.2.2.2.1 j := pk_un e
    have e2 : gcN (giftCase G g s x o) j = gcN G j := by rw [gcN, e1]; rfl
    rw [e1, e2]
    exact h.2 j hj
theorem gOk_add {G : GT} {k o f : Int32} (h : gOk G) (hl : G.2.2.2.2.2.2.2.2 < 12) : gOk (giftAdd G k o f) := by
  refine ⟨hl, fun j hj => ?_⟩
  by_cases e : j = G.2.2.2.2.2.2.2.2
  · have e1 : (giftAdd G k o f).2.2.2.1 j = 0 := by rw [e]; exact pk_us
    have e2 : gcN (giftAdd G k o f) j = 0 := by rw [gcN, e1]; rfl
    rw [e1, e2]
    exact ⟨rfl, by omega⟩
  · have hj : j < G.2.2.2.2.2.2.2.2 + 1 := hj
    have e1 : (giftAdd G k o f).2.2.2.1 j = G.2.2.2.1 j := pk_un e
    have e2 : gcN (giftAdd G k o f) j = gcN G j := by rw [gcN, e1]; rfl
    rw [e1, e2]
    exact h.2 j (by omega)
theorem rPostK_mono {tx : Nat → Int32} {e : Nat} {Z : ZT} {r : Nat} {k k' : Bool → ZT → Prop} (hz : zE e Z) (hr : Z.2.2.1.2.2.2.2.2.2.2 = r + 1) (h : ∀ b Z', zE e Z' → Z'.2.2.1.2.2.2.2.2.2.2 = r + 1 → k b Z' → k' b Z') (hk : rPostK tx Z r k) : rPostK tx Z r k' := by
  obtain ⟨hN, hB, hR, hL, hG⟩ := hz
  unfold rPostK at hk ⊢
  split
  · next c =>
    rw [if_pos c] at hk
    refine kwUseK_mono (nE_use (nE_step hN)) (fun v N hN hk => ?_) hk
    split
    · next c2 => rw [if_pos c2] at hk; exact h _ _ ⟨hN, hB, hR, hL, hG⟩ hr hk
    · next c2 => rw [if_neg c2] at hk; exact h _ _ ⟨hN, hB, rOk_post hR (by omega) c, hL, hG⟩ hr hk
  · next c => rw [if_neg c] at hk; exact h _ (zN Z (failF Z.1 5)) ⟨hN, hB, hR, hL, hG⟩ hr hk
theorem rCaseK_mono {tx : Nat → Int32} {e : Nat} {Z : ZT} {g : Nat} {k k' : Bool → ZT → Prop} (hz : zE e Z) (hg : Z.2.2.2.2.2.2.2.2.2.2.2.2 = g + 1) (h : ∀ b Z', zE e Z' → Z'.2.2.2.2.2.2.2.2.2.2.2.2 = g + 1 → k b Z' → k' b Z') (hk : rCaseK tx Z g k) : rCaseK tx Z g k' := by
  obtain ⟨hN, hB, hR, hL, hG⟩ := hz
  unfold rCaseK at hk ⊢
  split
  · next c =>
    rw [if_pos c] at hk
    have hN1 := nE_step (tx := tx) hN
    generalize stepF tx Z.1 = N at hk hN1 ⊢
    have two : ∀ pr v, nE e v.2 → rCase2 tx Z g pr v k → rCase2 tx Z g pr v k' := by
      intro pr v hv hk
      refine kwUseK_mono hv (fun o N hN hk => ?_) hk
      split
      · next c2 => rw [if_pos c2] at hk; exact h _ _ ⟨hN, hB, hR, hL, hG⟩ hg hk
      · next c2 => rw [if_neg c2] at hk; exact h _ _ ⟨hN, hB, hR, hL, gOk_case hG (by omega) c⟩ hg hk
    unfold rCase1 at hk ⊢
    split
    · next c2 =>
      rw [if_pos c2] at hk
      have hu := nE_use (tx := tx) (B := Z.2.1) (s := 0) (nE_step (tx := tx) hN1)
      unfold rCaseB at hk ⊢
      split
      · next c3 => rw [if_pos c3] at hk; exact h _ _ ⟨hu, hB, hR, hL, hG⟩ hg hk
      · next c3 => rw [if_neg c3] at hk; exact h _ _ ⟨hu, hB, hR, hL, gOk_case hG (by omega) c⟩ hg hk
    · next c2 =>
      rw [if_neg c2] at hk
      split
      · next c3 => rw [if_pos c3] at hk; exact two _ _ (nE_use (nE_step hN1)) hk
      · next c3 =>
        rw [if_neg c3] at hk
        split
        · next c4 => rw [if_pos c4] at hk; exact two _ _ (nE_use (nE_step hN1)) hk
        · next c4 => rw [if_neg c4] at hk; exact h _ (zN Z (failF N 1)) ⟨hN1, hB, hR, hL, hG⟩ hg hk
  · next c => rw [if_neg c] at hk; exact h _ (zN Z (failF Z.1 5)) ⟨hN, hB, hR, hL, hG⟩ hg hk
def rCasesK {α : Type} (tx : Nat → Int32) (g : Nat) (k : Bool → ZT → α) : Nat → ZT → α
  | 0, Z => k true Z
  | n + 1, Z => if seeB tx Z.1 (kb 9) = true then rCaseK tx Z g (fun b Z' => if b = true then rCasesK tx g k n Z' else k false Z') else k true Z
def rPostsK {α : Type} (tx : Nat → Int32) (r : Nat) (k : Bool → ZT → α) : Nat → ZT → α
  | 0, Z => k true Z
  | n + 1, Z => if seeB tx Z.1 (kb 7) = true then rPostK tx Z r (fun b Z' => if b = true then rPostsK tx r k n Z' else k false Z') else k true Z
def rGift3 {α : Type} (tx : Nat → Int32) (Z : ZT) (kd o f : Int32) (N : NT) (k : Bool → ZT → α) : α :=
  if f = -1 then k false (zN Z N) else rCasesK tx Z.2.2.2.2.2.2.2.2.2.2.2.2 k 4 (zG Z N (giftAdd Z.2.2.2.2 kd o f))
def rGift2 {α : Type} (tx : Nat → Int32) (Z : ZT) (v : Int32 × NT) (k : Bool → ZT → α) : α :=
  kwUseK tx Z.2.1 12 2 v (fun o N => kwNumK tx 17 0 400 o N (fun f N' => rGift3 tx Z v.1 o f N' k))
def rGiftK {α : Type} (tx : Nat → Int32) (Z : ZT) (k : Bool → ZT → α) : α :=
  if Z.2.2.2.2.2.2.2.2.2.2.2.2 < 12 then rGift2 tx Z (useF tx Z.2.1 (stepF tx Z.1) 3) k else k false (zN Z (failF Z.1 5))

def tX7_readGift : List q_I := [(0, .aload_n 0, 1, 0, 0), (1, .getfield 43, 3, 0, 0), (4, .getfield 186, 3, 0, 0), (7, .invokevirtual 190, 3, 0, 0), (10, .ifCond .ne 9, 3, 0, 19), (13, .aload_n 0, 1, 0, 0), (14, .iconst 5, 1, 5, 0), (15, .invokevirtual 83, 3, 0, 0), (18, .ireturn, 1, 0, 0), (19, .aload_n 0, 1, 0, 0), (20, .invokevirtual 73, 3, 0, 0), (23, .aload_n 0, 1, 0, 0), (24, .iconst 3, 1, 3, 0), (25, .invokevirtual 131, 3, 0, 0), (28, .istore_n 1, 1, 0, 0), (29, .iload_n 1, 1, 0, 0), (30, .iconst (-1), 1, (-1), 0), (31, .if_icmp .eq 20, 3, 0, 51), (34, .aload_n 0, 1, 0, 0), (35, .ldc 179, 2, 0, 0), (37, .invokevirtual 144, 3, 0, 0), (40, .ifCond .eq 11, 3, 0, 51), (43, .aload_n 0, 1, 0, 0), (44, .iconst 2, 1, 2, 0), (45, .invokevirtual 131, 3, 0, 0), (48, .goto 4, 3, 0, 52), (51, .iconst (-1), 1, (-1), 0), (52, .istore_n 2, 1, 0, 0), (53, .iload_n 2, 1, 0, 0), (54, .iconst (-1), 1, (-1), 0), (55, .if_icmp .eq 23, 3, 0, 78), (58, .aload_n 0, 1, 0, 0), (59, .ldc 193, 2, 0, 0), (61, .invokevirtual 144, 3, 0, 0), (64, .ifCond .eq 14, 3, 0, 78), (67, .aload_n 0, 1, 0, 0), (68, .iconst 0, 1, 0, 0), (69, .sipush 400, 3, 400, 0), (72, .invokevirtual 147, 3, 0, 0), (75, .goto 4, 3, 0, 79), (78, .iconst (-1), 1, (-1), 0), (79, .istore_n 3, 1, 0, 0), (80, .iload_n 3, 1, 0, 0), (81, .iconst (-1), 1, (-1), 0), (82, .if_icmp .ne 5, 3, 0, 87), (85, .iconst 0, 1, 0, 0), (86, .ireturn, 1, 0, 0), (87, .aload_n 0, 1, 0, 0), (88, .getfield 43, 3, 0, 0), (91, .getfield 186, 3, 0, 0), (94, .iload_n 1, 1, 0, 0), (95, .iload_n 2, 1, 0, 0), (96, .iload_n 3, 1, 0, 0), (97, .invokevirtual 195, 3, 0, 0), (100, .iconst 0, 1, 0, 0), (101, .istore 4, 2, 0, 0), (103, .iload 4, 2, 0, 0), (105, .iconst 3, 1, 3, 0), (106, .if_icmp .gt 27, 3, 0, 133), (109, .aload_n 0, 1, 0, 0), (110, .ldc 33, 2, 0, 0), (112, .invokevirtual 87, 3, 0, 0), (115, .ifCond .eq 18, 3, 0, 133), (118, .aload_n 0, 1, 0, 0), (119, .invokevirtual 198, 3, 0, 0), (122, .ifCond .ne 5, 3, 0, 127), (125, .iconst 0, 1, 0, 0), (126, .ireturn, 1, 0, 0), (127, .iinc 4 1, 3, 1, 0), (130, .goto (-27), 3, 0, 103), (133, .iconst 1, 1, 1, 0), (134, .ireturn, 1, 0, 0)]
theorem tX7_readGift_ok : (tX7_readGift.all (q_okI cX7_readGift)) = true := by decide +kernel

abbrev fdX7_readGift : List (Nat ⊕ (Nat × Nat)) := [.inl 0, .inr (0, 2), .inr (0, 3), .inr (0, 5), .inr (3, 0), .inr (3, 1), .inr (3, 2), .inr (3, 3), .inr (3, 5), .inr (8, 0), .inr (8, 1), .inr (8, 2), .inr (8, 3), .inr (8, 4), .inr (8, 5), .inr (8, 6), .inr (3, 6), .inr (16, 0), .inr (16, 1), .inr (16, 2), .inr (16, 3), .inr (16, 4), .inr (16, 5), .inr (16, 6), .inr (3, 7), .inr (24, 0), .inr (24, 1), .inr (24, 2), .inr (24, 3), .inr (24, 4), .inr (24, 5), .inr (24, 6), .inr (24, 7)]
def spX7_readGift : q_P := fun a w K => ∃ (tx : Nat → Int32) (Z : ZT), w = zW tx Z ∧ a = [.ref 0] ∧ zOk Z ∧ rGiftK tx Z (fun b Z' => K (.inl (some (.int (bI b)))) (zW tx Z'))
abbrev csX7_readGift : q_S := (1, 7, 7, 5, 0, 0, fdX7_readGift, spX7_readGift)
theorem coX7_190 (l : Launch) : q_CO l RX7 190 csX2_hasRoom := ⟨yX2_hasRoom, cX2_hasRoom, (some .boolean), 0, ⟨by decide +kernel, by decide +kernel, by decide +kernel⟩, q_G_i 5 (by decide +kernel) rfl, Or.inl ⟨by decide, rfl, rfl, q_G_i 681 (by decide +kernel) rfl, q_G_i 682 (by decide +kernel) rfl, q_G_i 683 (by decide +kernel) rfl, Or.inl ⟨q_G_i 684 (by decide +kernel) rfl, ctX2_hasRoom l⟩⟩⟩
theorem coX7_195 (l : Launch) : q_CO l RX7 195 csX2_add := ⟨yX2_add, cX2_add, none, 3, ⟨by decide +kernel, by decide +kernel, by decide +kernel⟩, q_G_i 5 (by decide +kernel) rfl, Or.inl ⟨by decide, rfl, rfl, q_G_i 686 (by decide +kernel) rfl, q_G_i 687 (by decide +kernel) rfl, q_G_i 688 (by decide +kernel) rfl, Or.inl ⟨q_G_i 689 (by decide +kernel) rfl, ctX2_add l⟩⟩⟩
theorem coX7_198 (l : Launch) : q_CO l RX7 198 csX7_readCase := ⟨yX7_readCase, cX7_readCase, (some .boolean), 0, ⟨by decide +kernel, by decide +kernel, by decide +kernel⟩, q_G_i 6 (by decide +kernel) rfl, Or.inl ⟨by decide, rfl, rfl, q_G_i 690 (by decide +kernel) rfl, q_G_i 692 (by decide +kernel) rfl, q_G_s (n := 13) 18 (by decide +kernel), Or.inl ⟨q_G_i 693 (by decide +kernel) rfl, ctX7_readCase l⟩⟩⟩
def EX7_readGift : q_E := (tX7_readGift, [(53, [0, 1, 2]), (80, [0, 1, 2, 3]), (103, [0, 4])], 5, flX7, [(190, csX2_hasRoom), (83, csX7_fail), (73, csX7_step), (131, csX7_use), (144, csX7_goBy), (147, csX7_number), (195, csX2_add), (87, csX7_sees), (198, csX7_readCase)], [], [], [(33, 9), (179, 12), (193, 17)], [], [], 7, 0, 0, (some .boolean), [], [], 0, 0)
theorem okX7_readGift (l : Launch) : q_Eok l RX7 cX7_readGift EX7_readGift := ⟨tX7_readGift_ok, flX7_ok, List.forall_mem_cons.mpr ⟨(coX7_190 l), List.forall_mem_cons.mpr ⟨(coX7_83 l), List.forall_mem_cons.mpr ⟨(coX7_73 l), List.forall_mem_cons.mpr ⟨(coX7_131 l), List.forall_mem_cons.mpr ⟨(coX7_144 l), List.forall_mem_cons.mpr ⟨(coX7_147 l), List.forall_mem_cons.mpr ⟨(coX7_195 l), List.forall_mem_cons.mpr ⟨(coX7_87 l), List.forall_mem_cons.mpr ⟨(coX7_198 l), q_nil⟩⟩⟩⟩⟩⟩⟩⟩⟩, q_nil, q_nil, List.forall_mem_cons.mpr ⟨⟨_, rfl, rfl, rfl⟩, List.forall_mem_cons.mpr ⟨⟨_, rfl, rfl, rfl⟩, List.forall_mem_cons.mpr ⟨⟨_, rfl, rfl, rfl⟩, q_nil⟩⟩⟩, q_nil, q_nil, (fun h => absurd h (by decide))⟩
set_option maxRecDepth 100000 in
set_option maxHeartbeats 4000000 in
theorem ctX7_readGift (l : Launch) : q_CT l yX7_readGift (.code yX7_readGift cX7_readGift 5 (some .boolean)) 7 0 0 spX7_readGift := by
  refine q_ct_of EX7_readGift (by decide +kernel) (okX7_readGift l) rfl rfl rfl rfl rfl q_nil (fun ci h => by cases h) rfl ?_
  intro a w K h
  obtain ⟨tx, Z, rfl, rfl, ⟨hN, hB, hR, hL, hG⟩, hK⟩ := h
  refine ⟨Nat.le_of_ble_eq_true rfl, fun C hC => hC _ _ _ _ _ _ ?_⟩
  have hN1 := (stepF_ok (tx := tx) hN).1
  refine ⟨Z.2.2.2.2, rfl, rfl, hG.1, And.intro (fun c => ?_) (fun c => ?_)⟩
  · have cG := of_decide_eq_true (bI_n0.mp c)
    rw [rGiftK, if_pos cG] at hK
    have loop : ∀ n i Z1, i + n = 4 → zOk Z1 → Z1.2.2.2.2.2.2.2.2.2.2.2.2 = Z.2.2.2.2.2.2.2.2.2.2.2.2 + 1 → rCasesK tx Z.2.2.2.2.2.2.2.2.2.2.2.2 (fun b Z' => K (.inl (some (.int (bI b)))) (zW tx Z')) n Z1 → C 103 [(0, .ref 0), (4, .int (nI i))] [] (zW tx Z1) 0 0 := by
      intro n
      induction n with
      | zero =>
        intro i Z1 hi hz hg hK
        refine hC _ _ _ _ _ _ ?_
        exact And.intro (fun _ => ⟨rfl, hK⟩) (fun c1 => absurd (nI_lt (a := 3) (b := i) (by omega) (by omega)) c1)
      | succ n ih =>
        intro i Z1 hi hz hg hK
        rw [rCasesK] at hK
        refine hC _ _ _ _ _ _ ?_
        refine And.intro (fun c1 => absurd c1 (nI_nlt (b := i) (a := 3) (by omega) (by omega))) (fun _ => ?_)
        refine ⟨by decide, tx, Z1.1, 9, _, rfl, rfl, rfl, hz.1, And.intro (fun c2 => ?_) (fun c2 => ?_)⟩
        · have c2 : seeB tx Z1.1 (kb 9) = false := bI_0.mp c2
          rw [if_neg (by rw [c2]; decide)] at hK
          exact ⟨rfl, hK⟩
        · have c2 : seeB tx Z1.1 (kb 9) = true := bI_n0.mp c2
          rw [if_pos c2] at hK
          refine ⟨tx, Z1, Z.2.2.2.2.2.2.2.2.2.2.2.2, rfl, rfl, hz, hg, rCaseK_mono (e := Z1.1.2.2.1) ⟨⟨hz.1, rfl⟩, hz.2⟩ hg (fun b Z' hz' hg' hk => ?_) hK⟩
          cases b with
          | true =>
            rw [if_pos rfl] at hk
            have h9 := ih (i + 1) Z' (by omega) hz'.ok hg' hk
            rw [← nI_1 i] at h9
            exact And.intro (fun _ => h9) (fun z => absurd z (by decide))
          | false =>
            rw [if_neg (by decide)] at hk
            exact And.intro (fun z => absurd rfl z) (fun _ => ⟨rfl, hk⟩)
    have at80 : ∀ (kd o f : Int32) (N : NT), nOk N → rGift3 tx Z kd o f N (fun b Z' => K (.inl (some (.int (bI b)))) (zW tx Z')) → C 80 [(0, .ref 0), (1, .int kd), (2, .int o), (3, .int f)] [] (zW tx (zN Z N)) 0 0 := by
      intro kd o f N hN hK
      refine hC _ _ _ _ _ _ (And.intro (fun c2 => ?_) (fun c2 => ?_))
      · rw [rGift3, if_neg c2] at hK
        refine ⟨Z.2.2.2.2, _, _, _, rfl, rfl, cG, ?_⟩
        exact loop 4 0 (zG Z N (giftAdd Z.2.2.2.2 kd o f)) rfl ⟨hN, hB, hR, hL, gOk_add hG cG⟩ rfl hK
      · have c2 : f = -1 := c2
        rw [rGift3, if_pos c2] at hK
        exact ⟨rfl, hK⟩
    have at53 : ∀ (kd o : Int32) (N : NT), nOk N → kwNumK tx 17 0 400 o N (fun f N' => rGift3 tx Z kd o f N' (fun b Z' => K (.inl (some (.int (bI b)))) (zW tx Z'))) → C 53 [(0, .ref 0), (1, .int kd), (2, .int o)] [] (zW tx (zN Z N)) 0 0 := by
      intro kd o N hN hK
      rw [kwNumK] at hK
      refine hC _ _ _ _ _ _ (And.intro (fun c2 => ?_) (fun c2 => ?_))
      · have c2 : o = -1 := c2
        rw [if_pos c2] at hK
        exact at80 kd o (-1) N hN hK
      · rw [if_neg c2] at hK
        refine ⟨by decide, tx, N, 17, _, rfl, rfl, rfl, hN, fun c3 => ?_, fun c3 => ?_⟩
        · have c3 : seeB tx N (kb 17) = true := c3
          rw [if_pos c3] at hK
          refine And.intro (fun z => absurd z (by decide)) (fun _ => ?_)
          exact ⟨tx, stepF tx N, _, _, rfl, rfl, (stepF_ok hN).1, at80 kd o _ _ (nOk_num (stepF_ok hN).1) hK⟩
        · have c3 : seeB tx N (kb 17) = false := c3
          rw [if_neg (by rw [c3]; decide)] at hK
          exact And.intro (fun _ => at80 kd o (-1) (failF N 1) hN hK) (fun z => absurd rfl z)
    refine ⟨tx, Z.1, rfl, rfl, hN.s, tx, stepF tx Z.1, Z.2.1, _, rfl, rfl, hN1, hB, ?_⟩
    have hN2 := nOk_use (tx := tx) (B := Z.2.1) (s := 3) hN1
    generalize useF tx Z.2.1 (stepF tx Z.1) 3 = v at hK hN2 ⊢
    rw [rGift2, kwUseK] at hK
    refine And.intro (fun c2 => ?_) (fun c2 => ?_)
    · rw [if_pos c2] at hK
      exact at53 v.1 (-1) v.2 hN2 hK
    · rw [if_neg c2] at hK
      refine ⟨by decide, tx, v.2, 12, _, rfl, rfl, rfl, hN2, fun c3 => ?_, fun c3 => ?_⟩
      · have c3 : seeB tx v.2 (kb 12) = true := c3
        rw [if_pos c3] at hK
        refine And.intro (fun z => absurd z (by decide)) (fun _ => ?_)
        exact ⟨tx, stepF tx v.2, Z.2.1, _, rfl, rfl, (stepF_ok hN2).1, hB, at53 v.1 _ _ (nOk_use (stepF_ok hN2).1) hK⟩
      · have c3 : seeB tx v.2 (kb 12) = false := c3
        rw [if_neg (by rw [c3]; decide)] at hK
        exact And.intro (fun _ => at53 v.1 (-1) (failF v.2 1) hN2 hK) (fun z => absurd rfl z)
  · rw [rGiftK, if_neg (of_decide_eq_false (bI_0.mp c))] at hK
    exact ⟨tx, Z.1, _, rfl, rfl, rfl, hK⟩
