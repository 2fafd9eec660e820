/-- the world of a search: the ways with their people, the book with its places told, roads, laws -/
def wyW (P : PT) (R : RT) (L : LT) (T : Nat → Int32) (m : Int32) (W : WT) : List q_C := waysW 0 (.ref 7) W ++ (peopleW 7 P ++ ([.inr (0, [.ref 15, tk 14 1, tk 14 2, tk 14 3, .int m, .ref 16, .ref 24, tk 14 7]), .inl (1, 4, .inl T)] ++ (roadsW 16 R ++ lawsW 24 L)))
def rEnd (R : RT) (n : Nat) : Prop := ∀ r, r < R.2.2.2.2.2.2.2 → ∃ a b, R.1 r = nI a ∧ R.2.1 r = nI b ∧ a < n ∧ b < n
theorem acr_lt {R : RT} {n : Nat} (h : rEnd R n) (hn : n ≤ 8) {r : Nat} (hr : r < R.2.2.2.2.2.2.2) (x : Int32) : acr R r x = -1 ∨ ∃ y, acr R r x = nI y ∧ y < n := by
  obtain ⟨a, b, h1, h2, h3, h4⟩ := h r hr
  unfold acr
  split
  · exact Or.inr ⟨b, h2, h4⟩
  · split
    · exact Or.inr ⟨a, h1, h3⟩
    · exact Or.inl rfl
theorem sooF_lt (st le : Nat → Int32) : ∀ n, (sooF st le n).1 = -1 ∨ ∃ y, (sooF st le n).1 = nI y ∧ y < n
  | 0 => Or.inl rfl
  | n + 1 => by
    rw [sooF]
    split
    · exact Or.inr ⟨n, rfl, by omega⟩
    · rcases sooF_lt st le n with h | ⟨y, h, hy⟩
      · exact Or.inl h
      · exact Or.inr ⟨y, h, by omega⟩
def fdOne (P : PT) (L : LT) (R : RT) (p at_ : Nat) (W : WT) (r : Nat) : WT := if acr R r (nI at_) = -1 ∨ ¬ W.2.2.2.1 (acr R r (nI at_)).toNatClampNeg = 0 then W else offer W (acr R r (nI at_)).toNatClampNeg (nI r) (comeF P L R p r 1000 (W.1 at_))
def wSet (W : WT) (i : Nat) : WT := (W.1, W.2.1, W.2.2.1, upd W.2.2.2.1 i 1, W.2.2.2.2.1, W.2.2.2.2.2)
def fdR (P : PT) (L : LT) (R : RT) (p n : Nat) : Nat → WT → WT
  | 0, W => W
  | k + 1, W => if (sooF W.2.2.2.1 W.1 n).1 = -1 then W else fdR P L R p n k (foldF (fdOne P L R p (sooF W.2.2.2.1 W.1 n).1.toNatClampNeg) 0 R.2.2.2.2.2.2.2 (wSet W (sooF W.2.2.2.1 W.1 n).1.toNatClampNeg))
def findD (P : PT) (L : LT) (R : RT) (p n x : Nat) (d : Int32) (W : WT) : WT := fdR P L R p n n (waysBegin W x d)

def tX10_findDays : List q_I := [(0, .aload_n 0, 1, 0, 0), (1, .aload_n 0, 1, 0, 0), (2, .getfield 33, 3, 0, 0), (5, .getfield 62, 3, 0, 0), (8, .iload_n 2, 1, 0, 0), (9, .iaload, 1, 0, 0), (10, .iload_n 3, 1, 0, 0), (11, .invokevirtual 65, 3, 0, 0), (14, .iconst 0, 1, 0, 0), (15, .istore 4, 2, 0, 0), (17, .iload 4, 2, 0, 0), (19, .aload_n 1, 1, 0, 0), (20, .getfield 69, 3, 0, 0), (23, .iconst 0, 1, 0, 0), (24, .iaload, 1, 0, 0), (25, .if_icmp .ge 109, 3, 0, 134), (28, .aload_n 0, 1, 0, 0), (29, .aload_n 1, 1, 0, 0), (30, .getfield 69, 3, 0, 0), (33, .iconst 0, 1, 0, 0), (34, .iaload, 1, 0, 0), (35, .invokevirtual 72, 3, 0, 0), (38, .istore 5, 2, 0, 0), (40, .iload 5, 2, 0, 0), (42, .iconst (-1), 1, (-1), 0), (43, .if_icmp .ne 4, 3, 0, 47), (46, .return_, 1, 0, 0), (47, .aload_n 0, 1, 0, 0), (48, .getfield 21, 3, 0, 0), (51, .iload 5, 2, 0, 0), (53, .iconst 1, 1, 1, 0), (54, .bastore, 1, 0, 0), (55, .iconst 0, 1, 0, 0), (56, .istore 6, 2, 0, 0), (58, .iload 6, 2, 0, 0), (60, .aload_n 1, 1, 0, 0), (61, .getfield 37, 3, 0, 0), (64, .getfield 76, 3, 0, 0), (67, .if_icmp .ge 61, 3, 0, 128), (70, .aload_n 1, 1, 0, 0), (71, .getfield 37, 3, 0, 0), (74, .iload 6, 2, 0, 0), (76, .iload 5, 2, 0, 0), (78, .invokevirtual 80, 3, 0, 0), (81, .istore 7, 2, 0, 0), (83, .iload 7, 2, 0, 0), (85, .iconst (-1), 1, (-1), 0), (86, .if_icmp .eq 36, 3, 0, 122), (89, .aload_n 0, 1, 0, 0), (90, .getfield 21, 3, 0, 0), (93, .iload 7, 2, 0, 0), (95, .baload, 1, 0, 0), (96, .ifCond .ne 26, 3, 0, 122), (99, .aload_n 0, 1, 0, 0), (100, .iload 7, 2, 0, 0), (102, .iload 6, 2, 0, 0), (104, .aload_n 0, 1, 0, 0), (105, .aload_n 1, 1, 0, 0), (106, .iload_n 2, 1, 0, 0), (107, .iload 6, 2, 0, 0), (109, .aload_n 0, 1, 0, 0), (110, .getfield 11, 3, 0, 0), (113, .iload 5, 2, 0, 0), (115, .iaload, 1, 0, 0), (116, .invokevirtual 84, 3, 0, 0), (119, .invokevirtual 88, 3, 0, 0), (122, .iinc 6 1, 3, 1, 0), (125, .goto (-67), 3, 0, 58), (128, .iinc 4 1, 3, 1, 0), (131, .goto (-114), 3, 0, 17), (134, .return_, 1, 0, 0)]
theorem tX10_findDays_ok : (tX10_findDays.all (q_okI cX10_findDays)) = true := by decide +kernel

abbrev fdX10_findDays : List (Nat ⊕ (Nat × Nat)) := [.inl 0, .inr (0, 1), .inr (0, 2), .inr (0, 3), .inr (0, 4), .inr (0, 5), .inr (0, 6), .inr (0, 0), .inr (7, 0), .inr (7, 1), .inr (7, 2), .inr (7, 3), .inr (7, 4), .inr (7, 5), .inl 1, .inr (14, 0), .inr (14, 5), .inr (16, 0), .inr (16, 1), .inr (16, 2), .inr (16, 3), .inr (16, 4), .inr (16, 5), .inr (16, 6), .inr (14, 6), .inr (24, 0), .inr (24, 1), .inr (24, 2), .inr (24, 3), .inr (24, 4), .inr (24, 5), .inr (24, 6)]
def spX10_findDays : q_P := fun a w K => ∃ (P : PT) (R : RT) (L : LT) (T : Nat → Int32) (m : Int32) (W : WT) (n p x : Nat) (d : Int32), w = wyW P R L T m W ∧ a = [.ref 0, .ref 14, .int (nI p), .int d] ∧ pOk P ∧ rOk R ∧ rEnd R n ∧ L_n L ≤ 24 ∧ T 0 = nI n ∧ n ≤ 8 ∧ p < P.2.2.2.2.2.2 ∧ P.1 p = nI x ∧ x < 8 ∧ K (.inl none) (wyW P R L T m (findD P L R p n x d W))
abbrev csX10_findDays : q_S := (4, 10, 5, 8, 0, 0, fdX10_findDays, spX10_findDays)
theorem coX10_65 (l : Launch) : q_CO l RX10 65 csX10_begin := ⟨yX10_begin, cX10_begin, none, 2, ⟨by decide +kernel, by decide +kernel, by decide +kernel⟩, q_G_i 12 (by decide +kernel) rfl, Or.inl ⟨by decide, rfl, rfl, q_G_i 871 (by decide +kernel) rfl, q_G_i 873 (by decide +kernel) rfl, q_G_s (n := 7) 26 (by decide +kernel), Or.inl ⟨q_G_i 874 (by decide +kernel) rfl, ctX10_begin l⟩⟩⟩
theorem coX10_72 (l : Launch) : q_CO l RX10 72 csX10_soonestUnsettled := ⟨yX10_soonestUnsettled, cX10_soonestUnsettled, (some .int), 1, ⟨by decide +kernel, by decide +kernel, by decide +kernel⟩, q_G_i 12 (by decide +kernel) rfl, Or.inl ⟨by decide, rfl, rfl, q_G_i 876 (by decide +kernel) rfl, q_G_i 878 (by decide +kernel) rfl, q_G_s (n := 7) 27 (by decide +kernel), Or.inl ⟨q_G_i 879 (by decide +kernel) rfl, ctX10_soonestUnsettled l⟩⟩⟩
theorem coX10_80 (l : Launch) : q_CO l RX10 80 csX8_across := ⟨yX8_across, cX8_across, (some .int), 2, ⟨by decide +kernel, by decide +kernel, by decide +kernel⟩, q_G_i 3 (by decide +kernel) rfl, Or.inl ⟨by decide, rfl, rfl, q_G_i 880 (by decide +kernel) rfl, q_G_i 881 (by decide +kernel) rfl, q_G_i 882 (by decide +kernel) rfl, Or.inl ⟨q_G_i 883 (by decide +kernel) rfl, ctX8_across l⟩⟩⟩
theorem coX10_84 (l : Launch) : q_CO l RX10 84 csX10_comingDay := ⟨yX10_comingDay, cX10_comingDay, (some .int), 4, ⟨by decide +kernel, by decide +kernel, by decide +kernel⟩, q_G_i 12 (by decide +kernel) rfl, Or.inl ⟨by decide, rfl, rfl, q_G_i 884 (by decide +kernel) rfl, q_G_i 886 (by decide +kernel) rfl, q_G_s (n := 7) 28 (by decide +kernel), Or.inl ⟨q_G_i 887 (by decide +kernel) rfl, ctX10_comingDay l⟩⟩⟩
theorem coX10_88 (l : Launch) : q_CO l RX10 88 csX10_offerDay := ⟨yX10_offerDay, cX10_offerDay, none, 3, ⟨by decide +kernel, by decide +kernel, by decide +kernel⟩, q_G_i 12 (by decide +kernel) rfl, Or.inl ⟨by decide, rfl, rfl, q_G_i 908 (by decide +kernel) rfl, q_G_i 910 (by decide +kernel) rfl, q_G_s (n := 7) 30 (by decide +kernel), Or.inl ⟨q_G_i 911 (by decide +kernel) rfl, ctX10_offerDay l⟩⟩⟩
def EX10_findDays : q_E := (tX10_findDays, [(17, [0, 1, 2, 4]), (58, [0, 1, 2, 4, 5, 6])], 8, flX10, [(65, csX10_begin), (72, csX10_soonestUnsettled), (80, csX8_across), (84, csX10_comingDay), (88, csX10_offerDay)], [], [], [], [], [], 5, 0, 0, none, [], [], 0, 0)
theorem okX10_findDays (l : Launch) : q_Eok l RX10 cX10_findDays EX10_findDays := ⟨tX10_findDays_ok, flX10_ok, List.forall_mem_cons.mpr ⟨(coX10_65 l), List.forall_mem_cons.mpr ⟨(coX10_72 l), List.forall_mem_cons.mpr ⟨(coX10_80 l), List.forall_mem_cons.mpr ⟨(coX10_84 l), List.forall_mem_cons.mpr ⟨(coX10_88 l), q_nil⟩⟩⟩⟩⟩, q_nil, q_nil, q_nil, q_nil, q_nil, (fun h => absurd h (by decide))⟩
set_option maxRecDepth 100000 in
set_option maxHeartbeats 4000000 in
theorem ctX10_findDays (l : Launch) : q_CT l yX10_findDays (.code yX10_findDays cX10_findDays 8 none) 5 0 0 spX10_findDays := by
  refine q_ct_of EX10_findDays (by decide +kernel) (okX10_findDays l) rfl rfl rfl rfl rfl q_nil (fun ci h => by cases h) rfl ?_
  intro a w K h
  obtain ⟨P, R, L, T, m, W, n, p, x, d, rfl, rfl, ho, hro, hre, hL, hT, hn, hp, hx, hx8, hK⟩ := h
  obtain ⟨p1, p2, p3, p4, p5⟩ := pOk_ix ho hp
  have hrn := hro.1
  refine ⟨Nat.le_of_ble_eq_true rfl, fun C hC => ?_⟩
  have outer : ∀ k i W, i + k = n → K (.inl none) (wyW P R L T m (fdR P L R p n k W)) → C 17 [(0, .ref 0), (1, .ref 14), (2, .int (nI p)), (4, .int (nI i))] [] (wyW P R L T m W) 0 0 := by
    intro k
    induction k with
    | zero =>
      intro i W hi hK
      refine hC _ _ _ _ _ _ ?_
      refine ⟨vp_in_nI (n := 0) (by decide) (by decide), And.intro (fun c1 => hK) (fun c1 => absurd (by show T 0 ≤ nI i; rw [hT]; exact nI_le (by omega) (by omega)) c1)⟩
    | succ k ih =>
      intro i W hi hK
      refine hC _ _ _ _ _ _ ?_
      refine ⟨vp_in_nI (n := 0) (by decide) (by decide), And.intro (fun c1 => absurd (show T 0 ≤ nI i from c1) (by rw [hT]; exact nI_ge (by omega) (by omega))) (fun c1 => ?_)⟩
      refine ⟨vp_in_nI (n := 0) (by decide) (by decide), W, _, n, rfl, (show [Value.ref 0, .int (T 0)] = _ by rw [hT]), hn, And.intro (fun c2 => ?_) (fun c2 => ?_)⟩
      · have c2 : ¬ (sooF W.2.2.2.1 W.1 n).1 = -1 := c2
        rw [fdR, if_neg c2] at hK
        obtain ⟨s, hs, hsn⟩ := (sooF_lt W.2.2.2.1 W.1 n).resolve_left c2
        have hsc : (nI s).toNatClampNeg = s := nI_clamp (by omega)
        rw [hs, hsc] at hK
        have inner : ∀ k j W, j + k = R.2.2.2.2.2.2.2 → K (.inl none) (wyW P R L T m (fdR P L R p n (n - (i + 1)) (foldF (fdOne P L R p s) j k W))) → C 58 [(0, .ref 0), (1, .ref 14), (2, .int (nI p)), (4, .int (nI i)), (5, .int (nI s)), (6, .int (nI j))] [] (wyW P R L T m W) 0 0 := by
          intro k2
          induction k2 with
          | zero =>
            intro j W hj hK
            refine hC _ _ _ _ _ _ ?_
            refine And.intro (fun c3 => ?_) (fun c3 => absurd (nI_le (by omega) (by omega)) c3)
            have h9 := ih (i + 1) W (by omega) (by rw [foldF, show n - (i + 1) = k by omega] at hK; exact hK)
            rw [← nI_1] at h9
            exact h9
          | succ k2 ih2 =>
            intro j W hj hK
            have hrj : j < R.2.2.2.2.2.2.2 := by omega
            have nx : ∀ W', fdOne P L R p s W j = W' → C 58 [(0, .ref 0), (1, .ref 14), (2, .int (nI p)), (4, .int (nI i)), (5, .int (nI s)), (6, .int (nI j + 1))] [] (wyW P R L T m W') 0 0 := by
              intro W' e
              have h9 := ih2 (j + 1) W' (by omega) (by rw [foldF, e] at hK; exact hK)
              rw [← nI_1] at h9
              exact h9
            refine hC _ _ _ _ _ _ ?_
            refine And.intro (fun c3 => absurd c3 (nI_ge (by omega) (by omega))) (fun c3 => ?_)
            refine ⟨R, j, _, rfl, rfl, by omega, And.intro (fun c4 => ?_) (fun c4 => ?_)⟩
            · exact nx W (if_pos (Or.inl c4))
            · have c4 : ¬ acr R j (nI s) = -1 := c4
              obtain ⟨y, hy, hyn⟩ := (acr_lt hre hn hrj (nI s)).resolve_left c4
              have hyc : (nI y).toNatClampNeg = y := nI_clamp (by omega)
              have hv : vp_in (acr R j (nI s)) 8 := by rw [hy]; exact vp_in_nI (by omega) (by omega)
              refine ⟨hv, And.intro (fun c5 => ?_) (fun c5 => ?_)⟩
              · exact nx W (if_pos (Or.inr c5))
              · refine ⟨vp_in_nI (by omega) (by omega), P, R, L, p, j, _, m, rfl, rfl, ho, hro, hL, hp, hrj, ?_⟩
                refine ⟨W, _, y, _, _, rfl, (by rw [← hy]), by omega, ?_⟩
                have h9 := nx (offer W y (nI j) (comeF P L R p j 1000 (W.1 s))) (by rw [fdOne, if_neg (fun z => z.elim c4 (fun z => z c5)), hy, hyc])
                rw [← hsc] at h9
                rw [hsc] at h9
                have e1 : W.1 s = W.1 (nI s).toNatClampNeg := by rw [hsc]
                rw [e1] at h9
                exact h9
        refine ⟨(by show vp_in (sooF W.2.2.2.1 W.1 n).1 8; rw [hs]; exact vp_in_nI (by omega) (by omega)), ?_⟩
        have h9 := inner R.2.2.2.2.2.2.2 0 (wSet W s) (by omega) (by rw [show n - (i + 1) = k by omega]; exact hK)
        rw [← hs] at h9
        have e1 : wSet W s = wSet W (sooF W.2.2.2.1 W.1 n).1.toNatClampNeg := by rw [hs, hsc]
        rw [e1] at h9
        exact h9
      · have c2 : (sooF W.2.2.2.1 W.1 n).1 = -1 := c2
        rw [fdR, if_pos c2] at hK
        exact hK
  refine hC _ _ _ _ _ _ ?_
  refine ⟨p1, W, _, x, _, rfl, (show [Value.ref 0, .int (P.1 (nI p).toNatClampNeg), .int d] = _ by rw [p2, hx]), hx8, ?_⟩
  exact outer n 0 (waysBegin W x d) (by omega) hK
def byOk (W : WT) (rc : Nat) : Prop := ∀ y, y < 8 → W.2.2.1 y = -1 ∨ ∃ r, W.2.2.1 y = nI r ∧ r < rc
theorem upd_at {α : Type} (f : Nat → Int32) (i : Nat) (v : Int32) (j : Nat) : upd f i v j = if j = i then v else f j := by
  by_cases h : j = i
  · subst h; rw [if_pos rfl]; exact pk_us
  · rw [if_neg h]; exact pk_un h
theorem byOk_begin (W : WT) (x : Nat) (v : Int32) (rc : Nat) : byOk (waysBegin W x v) rc := fun y hy => Or.inl (if_pos hy)
theorem byOk_offer {W : WT} {rc : Nat} (h : byOk W rc) (x r : Nat) (d : Int32) (hr : r < rc) : byOk (offer W x (nI r) d) rc := by
  intro y hy
  rw [offer]
  split
  · by_cases e : y = x
    · subst e; exact Or.inr ⟨r, pk_us, hr⟩
    · rcases h y hy with z | ⟨q, z, hq⟩
      · exact Or.inl (by show upd _ _ _ y = _; rw [pk_un e]; exact z)
      · exact Or.inr ⟨q, by show upd _ _ _ y = _; rw [pk_un e]; exact z, hq⟩
  · exact h y hy
theorem foldF_inv {α : Type} {g : α → Nat → α} {I : α → Prop} : ∀ n s x, I x → (∀ y k, I y → s ≤ k → k < s + n → I (g y k)) → I (foldF g s n x)
  | 0, _, _, h, _ => h
  | n + 1, s, x, h, hg => foldF_inv n (s + 1) (g x s) (hg x s h (Nat.le_refl _) (by omega)) (fun y k hy h1 h2 => hg y k hy (by omega) (by omega))
theorem byOk_fdOne {P : PT} {L : LT} {R : RT} {p a : Nat} {W : WT} {rc : Nat} (h : byOk W rc) {r : Nat} (hr : r < rc) : byOk (fdOne P L R p a W r) rc := by
  rw [fdOne]
  split
  · exact h
  · exact byOk_offer h _ _ _ hr
theorem byOk_fdR {P : PT} {L : LT} {R : RT} {p n : Nat} : ∀ k W, byOk W R.2.2.2.2.2.2.2 → byOk (fdR P L R p n k W) R.2.2.2.2.2.2.2
  | 0, _, h => h
  | k + 1, W, h => by
    rw [fdR]
    split
    · exact h
    · exact byOk_fdR k _ (foldF_inv (I := fun W => byOk W R.2.2.2.2.2.2.2) _ 0 _ h (fun y j hy _ hj => byOk_fdOne hy (by omega)))
theorem byOk_findD {P : PT} {L : LT} {R : RT} {p n x : Nat} {d : Int32} {W : WT} : byOk (findD P L R p n x d W) R.2.2.2.2.2.2.2 := byOk_fdR _ _ (byOk_begin _ _ _ _)
def trF (R : RT) (W : WT) : Nat → Nat → Nat → (Nat → Int32) → Nat × (Nat → Int32)
  | 0, _, _, t => (0, t)
  | k + 1, s, y, t => if W.1 y = 1000000 then (0, t) else if W.2.2.1 y = -1 ∨ acr R (W.2.2.1 y).toNatClampNeg (nI y) = -1 then (s + 1, upd t s (nI y)) else trF R W k (s + 1) (acr R (W.2.2.1 y).toNatClampNeg (nI y)).toNatClampNeg (upd t s (nI y))
def wTr (W : WT) (t : Nat → Int32) : WT := (W.1, t, W.2.2)
def tX10_trace : List q_I := [(0, .iload_n 2, 1, 0, 0), (1, .istore_n 3, 1, 0, 0), (2, .iconst 1, 1, 1, 0), (3, .istore 4, 2, 0, 0), (5, .iload 4, 2, 0, 0), (7, .bipush 8, 2, 8, 0), (9, .if_icmp .gt 69, 3, 0, 78), (12, .aload_n 0, 1, 0, 0), (13, .getfield 11, 3, 0, 0), (16, .iload_n 3, 1, 0, 0), (17, .iaload, 1, 0, 0), (18, .ldc 92, 2, 0, 0), (20, .if_icmp .eq 58, 3, 0, 78), (23, .aload_n 0, 1, 0, 0), (24, .getfield 15, 3, 0, 0), (27, .iload 4, 2, 0, 0), (29, .iconst 1, 1, 1, 0), (30, .isub, 1, 0, 0), (31, .iload_n 3, 1, 0, 0), (32, .iastore, 1, 0, 0), (33, .aload_n 0, 1, 0, 0), (34, .getfield 18, 3, 0, 0), (37, .iload_n 3, 1, 0, 0), (38, .iaload, 1, 0, 0), (39, .iconst (-1), 1, (-1), 0), (40, .if_icmp .ne 7, 3, 0, 47), (43, .iconst (-1), 1, (-1), 0), (44, .goto 14, 3, 0, 58), (47, .aload_n 1, 1, 0, 0), (48, .aload_n 0, 1, 0, 0), (49, .getfield 18, 3, 0, 0), (52, .iload_n 3, 1, 0, 0), (53, .iaload, 1, 0, 0), (54, .iload_n 3, 1, 0, 0), (55, .invokevirtual 80, 3, 0, 0), (58, .istore 5, 2, 0, 0), (60, .iload 5, 2, 0, 0), (62, .iconst (-1), 1, (-1), 0), (63, .if_icmp .ne 6, 3, 0, 69), (66, .iload 4, 2, 0, 0), (68, .ireturn, 1, 0, 0), (69, .iload 5, 2, 0, 0), (71, .istore_n 3, 1, 0, 0), (72, .iinc 4 1, 3, 1, 0), (75, .goto (-70), 3, 0, 5), (78, .iconst 0, 1, 0, 0), (79, .ireturn, 1, 0, 0)]
theorem tX10_trace_ok : (tX10_trace.all (q_okI cX10_trace)) = true := by decide +kernel

abbrev fdX10_trace : List (Nat ⊕ (Nat × Nat)) := [.inl 0, .inr (0, 1), .inr (0, 2), .inr (0, 3), .inr (0, 4), .inr (0, 5), .inr (0, 6), .inl 1, .inr (7, 0), .inr (7, 1), .inr (7, 2), .inr (7, 3), .inr (7, 4), .inr (7, 5), .inr (7, 6)]
def spX10_trace : q_P := fun a w K => ∃ (R : RT) (W : WT) (pv : Value) (n x : Nat), w = waysW 0 pv W ++ roadsW 7 R ∧ a = [.ref 0, .ref 7, .int (nI x)] ∧ R.2.2.2.2.2.2.2 ≤ 16 ∧ rEnd R n ∧ n ≤ 8 ∧ byOk W R.2.2.2.2.2.2.2 ∧ x < 8 ∧ K (.inl (some (.int (nI (trF R W 8 0 x W.2.1).1)))) (waysW 0 pv (wTr W (trF R W 8 0 x W.2.1).2) ++ roadsW 7 R)
abbrev csX10_trace : q_S := (3, 10, 1, 6, 0, 0, fdX10_trace, spX10_trace)
def EX10_trace : q_E := (tX10_trace, [(5, [0, 1, 3, 4])], 6, flX10, [(80, csX8_across)], [], [(92, 1000000)], [], [], [], 1, 0, 0, (some .int), [], [], 0, 0)
theorem okX10_trace (l : Launch) : q_Eok l RX10 cX10_trace EX10_trace := ⟨tX10_trace_ok, flX10_ok, List.forall_mem_cons.mpr ⟨(coX10_80 l), q_nil⟩, q_nil, List.forall_mem_cons.mpr ⟨q_G_i 875 (by decide +kernel) rfl, q_nil⟩, q_nil, q_nil, q_nil, (fun h => absurd h (by decide))⟩
set_option maxRecDepth 100000 in
set_option maxHeartbeats 4000000 in
theorem ctX10_trace (l : Launch) : q_CT l yX10_trace (.code yX10_trace cX10_trace 6 (some .int)) 1 0 0 spX10_trace := by
  refine q_ct_of EX10_trace (by decide +kernel) (okX10_trace l) rfl rfl rfl rfl rfl q_nil (fun ci h => by cases h) rfl ?_
  intro a w K h
  obtain ⟨R, W, pv, n, x, rfl, rfl, hrn, hre, hn, hby, hx, hK⟩ := h
  refine ⟨Nat.le_of_ble_eq_true rfl, fun C hC => ?_⟩
  have loop : ∀ k i y t, i + k = 8 → y < 8 → K (.inl (some (.int (nI (trF R W k i y t).1)))) (waysW 0 pv (wTr W (trF R W k i y t).2) ++ roadsW 7 R) → C 5 [(0, .ref 0), (1, .ref 7), (3, .int (nI y)), (4, .int (nI (i + 1)))] [] (waysW 0 pv (wTr W t) ++ roadsW 7 R) 0 0 := by
    intro k
    induction k with
    | zero =>
      intro i y t hi hy hK
      refine hC _ _ _ _ _ _ ?_
      exact And.intro (fun c1 => hK) (fun c1 => absurd (nI_lt (a := 8) (by omega) (by omega)) c1)
    | succ k ih =>
      intro i y t hi hy hK
      have hv : vp_in (nI y) 8 := vp_in_nI (by omega) (by omega)
      have hc : (nI y).toNatClampNeg = y := nI_clamp (by omega)
      have hci : (nI (i + 1) - 1).toNatClampNeg = i := by rw [nI_pred]; exact nI_clamp (by omega)
      have hvi : vp_in (nI (i + 1) - 1) 8 := by rw [nI_pred]; exact vp_in_nI (by omega) (by omega)
      refine hC _ _ _ _ _ _ ?_
      refine And.intro (fun c1 => absurd c1 (nI_nlt (b := i + 1) (a := 8) (by omega) (by omega))) (fun c1 => ⟨hv, And.intro (fun c2 => ?_) (fun c2 => ?_)⟩)
      · have c2 : W.1 (nI y).toNatClampNeg = 1000000 := c2
        rw [hc] at c2
        rw [trF, if_pos c2] at hK
        exact hK
      · have c2 : ¬ W.1 (nI y).toNatClampNeg = 1000000 := c2
        rw [hc] at c2
        refine ⟨hvi, hv, And.intro (fun c3 => ?_) (fun c3 => ?_)⟩
        · have c3 : ¬ W.2.2.1 (nI y).toNatClampNeg = -1 := c3
          rw [hc] at c3
          obtain ⟨r, hr, hrc⟩ := (hby y hy).resolve_left c3
          have hrr : (nI r).toNatClampNeg = r := nI_clamp (by omega)
          refine ⟨hv, R, r, _, rfl, (show [Value.ref 0, .int (W.2.2.1 (nI y).toNatClampNeg), .int (nI y)] = _ by rw [hc, hr]), by omega, And.intro (fun c4 => ?_) (fun c4 => ?_)⟩
          · have c4 : ¬ acr R r (nI y) = -1 := c4
            obtain ⟨z, hz, hzn⟩ := (acr_lt hre hn hrc (nI y)).resolve_left c4
            have hzc : (nI z).toNatClampNeg = z := nI_clamp (by omega)
            rw [trF, if_neg c2, if_neg (fun q => q.elim c3 (by rw [hr, hrr]; exact c4)), hr, hrr, hz, hzc] at hK
            have h9 := ih (i + 1) z _ (by omega) (by omega) hK
            rw [← hz, ← nI_1 (i + 1), ← hci] at h9
            rw [hci] at h9
            have e1 : upd t i (nI y) = upd t (nI (i + 1) - 1).toNatClampNeg (nI y) := by rw [hci]
            rw [e1] at h9
            exact h9
          · have c4 : acr R r (nI y) = -1 := c4
            rw [trF, if_neg c2, if_pos (Or.inr (by rw [hr, hrr]; exact c4))] at hK
            have e1 : upd t i (nI y) = upd t (nI (i + 1) - 1).toNatClampNeg (nI y) := by rw [hci]
            rw [e1] at hK
            exact hK
        · have c3 : W.2.2.1 (nI y).toNatClampNeg = -1 := c3
          rw [hc] at c3
          rw [trF, if_neg c2, if_pos (Or.inl c3)] at hK
          have e1 : upd t i (nI y) = upd t (nI (i + 1) - 1).toNatClampNeg (nI y) := by rw [hci]
          rw [e1] at hK
          exact And.intro (fun c4 => absurd rfl c4) (fun _ => hK)
  exact hC _ _ _ _ _ _ (loop 8 0 x W.2.1 rfl hx hK)
def lowE (a b : Nat) (c : Int32) (f : Nat → Int32) : Nat → Int32 :=
  if (if f a = 1000000 then f else upd f b (mnI (f b) (f a + c))) b = 1000000 then (if f a = 1000000 then f else upd f b (mnI (f b) (f a + c)))
  else upd (if f a = 1000000 then f else upd f b (mnI (f b) (f a + c))) a (mnI ((if f a = 1000000 then f else upd f b (mnI (f b) (f a + c))) a) ((if f a = 1000000 then f else upd f b (mnI (f b) (f a + c))) b + c))
def coinE (R : RT) (f : Nat → Int32) (r : Nat) : Nat → Int32 := lowE (R.1 r).toNatClampNeg (R.2.1 r).toNatClampNeg (R.2.2.2.1 r) f
def tX10_lowerEnds : List q_I := [(0, .aload_n 1, 1, 0, 0), (1, .getfield 129, 3, 0, 0), (4, .iload_n 2, 1, 0, 0), (5, .iaload, 1, 0, 0), (6, .istore_n 3, 1, 0, 0), (7, .aload_n 1, 1, 0, 0), (8, .getfield 132, 3, 0, 0), (11, .iload_n 2, 1, 0, 0), (12, .iaload, 1, 0, 0), (13, .istore 4, 2, 0, 0), (15, .aload_n 1, 1, 0, 0), (16, .getfield 135, 3, 0, 0), (19, .iload_n 2, 1, 0, 0), (20, .iaload, 1, 0, 0), (21, .istore 5, 2, 0, 0), (23, .aload_n 0, 1, 0, 0), (24, .getfield 11, 3, 0, 0), (27, .iload_n 3, 1, 0, 0), (28, .iaload, 1, 0, 0), (29, .ldc 92, 2, 0, 0), (31, .if_icmp .eq 29, 3, 0, 60), (34, .aload_n 0, 1, 0, 0), (35, .getfield 11, 3, 0, 0), (38, .iload 4, 2, 0, 0), (40, .aload_n 0, 1, 0, 0), (41, .getfield 11, 3, 0, 0), (44, .iload 4, 2, 0, 0), (46, .iaload, 1, 0, 0), (47, .aload_n 0, 1, 0, 0), (48, .getfield 11, 3, 0, 0), (51, .iload_n 3, 1, 0, 0), (52, .iaload, 1, 0, 0), (53, .iload 5, 2, 0, 0), (55, .iadd, 1, 0, 0), (56, .invokestatic 112, 3, 0, 0), (59, .iastore, 1, 0, 0), (60, .aload_n 0, 1, 0, 0), (61, .getfield 11, 3, 0, 0), (64, .iload 4, 2, 0, 0), (66, .iaload, 1, 0, 0), (67, .ldc 92, 2, 0, 0), (69, .if_icmp .eq 28, 3, 0, 97), (72, .aload_n 0, 1, 0, 0), (73, .getfield 11, 3, 0, 0), (76, .iload_n 3, 1, 0, 0), (77, .aload_n 0, 1, 0, 0), (78, .getfield 11, 3, 0, 0), (81, .iload_n 3, 1, 0, 0), (82, .iaload, 1, 0, 0), (83, .aload_n 0, 1, 0, 0), (84, .getfield 11, 3, 0, 0), (87, .iload 4, 2, 0, 0), (89, .iaload, 1, 0, 0), (90, .iload 5, 2, 0, 0), (92, .iadd, 1, 0, 0), (93, .invokestatic 112, 3, 0, 0), (96, .iastore, 1, 0, 0), (97, .return_, 1, 0, 0)]
theorem tX10_lowerEnds_ok : (tX10_lowerEnds.all (q_okI cX10_lowerEnds)) = true := by decide +kernel

abbrev fdX10_lowerEnds : List (Nat ⊕ (Nat × Nat)) := [.inl 0, .inr (0, 1), .inr (0, 2), .inr (0, 3), .inr (0, 4), .inr (0, 5), .inr (0, 6), .inl 1, .inr (7, 0), .inr (7, 1), .inr (7, 2), .inr (7, 3), .inr (7, 4), .inr (7, 5), .inr (7, 6)]
def spX10_lowerEnds : q_P := fun a w K => ∃ (R : RT) (W : WT) (pv : Value) (n r : Nat), w = waysW 0 pv W ++ roadsW 7 R ∧ a = [.ref 0, .ref 7, .int (nI r)] ∧ R.2.2.2.2.2.2.2 ≤ 16 ∧ rEnd R n ∧ n ≤ 8 ∧ r < R.2.2.2.2.2.2.2 ∧ K (.inl none) (waysW 0 pv (coinE R W.1 r, W.2) ++ roadsW 7 R)
abbrev csX10_lowerEnds : q_S := (3, 10, 1, 6, 0, 0, fdX10_lowerEnds, spX10_lowerEnds)
def EX10_lowerEnds : q_E := (tX10_lowerEnds, [], 6, flX10, [], [], [(92, 1000000)], [], [], [(112, 2)], 1, 0, 0, none, [], [], 0, 0)
theorem okX10_lowerEnds (l : Launch) : q_Eok l RX10 cX10_lowerEnds EX10_lowerEnds := ⟨tX10_lowerEnds_ok, flX10_ok, q_nil, q_nil, List.forall_mem_cons.mpr ⟨q_G_i 875 (by decide +kernel) rfl, q_nil⟩, q_nil, List.forall_mem_cons.mpr ⟨Or.inr (Or.inr ⟨rfl, q_G_i 907 (by decide +kernel) rfl⟩), q_nil⟩, q_nil, (fun h => absurd h (by decide))⟩
set_option maxRecDepth 100000 in
set_option maxHeartbeats 4000000 in
theorem ctX10_lowerEnds (l : Launch) : q_CT l yX10_lowerEnds (.code yX10_lowerEnds cX10_lowerEnds 6 none) 1 0 0 spX10_lowerEnds := by
  refine q_ct_of EX10_lowerEnds (by decide +kernel) (okX10_lowerEnds l) rfl rfl rfl rfl rfl q_nil (fun ci h => by cases h) rfl ?_
  intro a w K h
  obtain ⟨R, W, pv, n, r, rfl, rfl, hrn, hre, hn, hr, hK⟩ := h
  refine ⟨Nat.le_of_ble_eq_true rfl, fun C hC => hC _ _ _ _ _ _ ?_⟩
  obtain ⟨a, b, h1, h2, h3, h4⟩ := hre r hr
  have hv : vp_in (nI r) 16 := vp_in_nI (by omega) (by omega)
  have hc : (nI r).toNatClampNeg = r := nI_clamp (by omega)
  have va : vp_in (R.1 (nI r).toNatClampNeg) 8 := by rw [hc, h1]; exact vp_in_nI (by omega) (by omega)
  have vb : vp_in (R.2.1 (nI r).toNatClampNeg) 8 := by rw [hc, h2]; exact vp_in_nI (by omega) (by omega)
  have hK : K (.inl none) (waysW 0 pv (coinE R W.1 (nI r).toNatClampNeg, W.2) ++ roadsW 7 R) := by rw [hc]; exact hK
  refine ⟨hv, hv, hv, va, And.intro (fun c => ?_) (fun c => ?_)⟩
  · have c : W.1 (R.1 (nI r).toNatClampNeg).toNatClampNeg = 1000000 := c
    rw [coinE, lowE, if_pos c] at hK
    refine ⟨vb, And.intro (fun c2 => ?_) (fun c2 => ?_)⟩
    · have c2 : W.1 (R.2.1 (nI r).toNatClampNeg).toNatClampNeg = 1000000 := c2
      rw [if_pos c2] at hK; exact hK
    · have c2 : ¬ W.1 (R.2.1 (nI r).toNatClampNeg).toNatClampNeg = 1000000 := c2
      rw [if_neg c2] at hK; exact ⟨va, vb, va, hK⟩
  · have c : ¬ W.1 (R.1 (nI r).toNatClampNeg).toNatClampNeg = 1000000 := c
    rw [coinE, lowE, if_neg c] at hK
    refine ⟨vb, va, vb, vb, And.intro (fun c2 => ?_) (fun c2 => ?_)⟩
    · rw [if_pos c2] at hK; exact hK
    · rw [if_neg c2] at hK; exact ⟨va, vb, va, hK⟩
def wMet (W : WT) (g : Nat → Int32) : WT := (W.1, W.2.1, W.2.2.1, W.2.2.2.1, g, W.2.2.2.2.2)
def wOpn (W : WT) (g : Nat → Int32) : WT := (W.1, W.2.1, W.2.2.1, W.2.2.2.1, W.2.2.2.2.1, g)
def metB (P : PT) (L : LT) (R : RT) (p : Nat) (d : Int32) (k : Nat) : Bool := hasGd P L p (R.2.2.2.2.2.1 k) (R.2.2.2.2.2.2.1 k) d
def metOk (R : RT) (g : Nat → Int32) (b : Nat → Bool) (j : Nat) : Prop := ∀ r i, r < j → i < rpN R r → g (r * 3 + i) = bI (b (r * 3 + i))
def tX10_meetPosts : List q_I := [(0, .aload_n 1, 1, 0, 0), (1, .getfield 37, 3, 0, 0), (4, .astore 4, 2, 0, 0), (6, .iconst 0, 1, 0, 0), (7, .istore 5, 2, 0, 0), (9, .iload 5, 2, 0, 0), (11, .aload 4, 2, 0, 0), (13, .getfield 76, 3, 0, 0), (16, .if_icmp .ge 76, 3, 0, 92), (19, .iconst 0, 1, 0, 0), (20, .istore 6, 2, 0, 0), (22, .iload 6, 2, 0, 0), (24, .aload 4, 2, 0, 0), (26, .getfield 43, 3, 0, 0), (29, .iload 5, 2, 0, 0), (31, .iaload, 1, 0, 0), (32, .if_icmp .ge 54, 3, 0, 86), (35, .iload 5, 2, 0, 0), (37, .iconst 3, 1, 3, 0), (38, .imul, 1, 0, 0), (39, .iload 6, 2, 0, 0), (41, .iadd, 1, 0, 0), (42, .istore 7, 2, 0, 0), (44, .aload_n 0, 1, 0, 0), (45, .getfield 27, 3, 0, 0), (48, .iload 7, 2, 0, 0), (50, .aload_n 0, 1, 0, 0), (51, .getfield 33, 3, 0, 0), (54, .iload_n 2, 1, 0, 0), (55, .aload 4, 2, 0, 0), (57, .getfield 46, 3, 0, 0), (60, .iload 7, 2, 0, 0), (62, .iaload, 1, 0, 0), (63, .aload 4, 2, 0, 0), (65, .getfield 49, 3, 0, 0), (68, .iload 7, 2, 0, 0), (70, .iaload, 1, 0, 0), (71, .iload_n 3, 1, 0, 0), (72, .aload_n 1, 1, 0, 0), (73, .getfield 52, 3, 0, 0), (76, .invokevirtual 56, 3, 0, 0), (79, .bastore, 1, 0, 0), (80, .iinc 6 1, 3, 1, 0), (83, .goto (-61), 3, 0, 22), (86, .iinc 5 1, 3, 1, 0), (89, .goto (-80), 3, 0, 9), (92, .return_, 1, 0, 0)]
theorem tX10_meetPosts_ok : (tX10_meetPosts.all (q_okI cX10_meetPosts)) = true := by decide +kernel

abbrev fdX10_meetPosts : List (Nat ⊕ (Nat × Nat)) := [.inl 0, .inr (0, 1), .inr (0, 2), .inr (0, 3), .inr (0, 4), .inr (0, 5), .inr (0, 6), .inr (0, 0), .inr (7, 0), .inr (7, 1), .inr (7, 2), .inr (7, 3), .inr (7, 4), .inr (7, 5), .inl 1, .inr (14, 0), .inr (14, 5), .inr (16, 0), .inr (16, 1), .inr (16, 2), .inr (16, 3), .inr (16, 4), .inr (16, 5), .inr (16, 6), .inr (14, 6), .inr (24, 0), .inr (24, 1), .inr (24, 2), .inr (24, 3), .inr (24, 4), .inr (24, 5), .inr (24, 6)]
def spX10_meetPosts : q_P := fun a w K => ∃ (P : PT) (R : RT) (L : LT) (T : Nat → Int32) (m : Int32) (W : WT) (p : Nat) (d : Int32), w = wyW P R L T m W ∧ a = [.ref 0, .ref 14, .int (nI p), .int d] ∧ pOk P ∧ rOk R ∧ L_n L ≤ 24 ∧ p < P.2.2.2.2.2.2 ∧ ∀ g, metOk R g (metB P L R p d) R.2.2.2.2.2.2.2 → K (.inl none) (wyW P R L T m (wMet W g))
abbrev csX10_meetPosts : q_S := (4, 10, 3, 8, 0, 0, fdX10_meetPosts, spX10_meetPosts)
def EX10_meetPosts : q_E := (tX10_meetPosts, [(9, [0, 1, 2, 3, 4, 5]), (22, [0, 1, 2, 3, 4, 5, 6])], 8, flX10, [(56, csX6_hasGood)], [], [], [], [], [], 3, 0, 0, none, [], [], 0, 0)
theorem okX10_meetPosts (l : Launch) : q_Eok l RX10 cX10_meetPosts EX10_meetPosts := ⟨tX10_meetPosts_ok, flX10_ok, List.forall_mem_cons.mpr ⟨(coX10_56 l), q_nil⟩, q_nil, q_nil, q_nil, q_nil, q_nil, (fun h => absurd h (by decide))⟩
set_option maxRecDepth 100000 in
set_option maxHeartbeats 4000000 in
theorem ctX10_meetPosts (l : Launch) : q_CT l yX10_meetPosts (.code yX10_meetPosts cX10_meetPosts 8 none) 3 0 0 spX10_meetPosts := by
  refine q_ct_of EX10_meetPosts (by decide +kernel) (okX10_meetPosts l) rfl rfl rfl rfl rfl q_nil (fun ci h => by cases h) rfl ?_
  intro a w K h
  obtain ⟨P, R, L, T, m, W, p, d, rfl, rfl, ho, hro, hL, hp, hK⟩ := h
  have hrn := hro.1
  refine ⟨Nat.le_of_ble_eq_true rfl, fun C hC => ?_⟩
  have outer : ∀ k j g, j + k = R.2.2.2.2.2.2.2 → metOk R g (metB P L R p d) j → C 9 [(0, .ref 0), (1, .ref 14), (2, .int (nI p)), (3, .int d), (4, .ref 16), (5, .int (nI j))] [] (wyW P R L T m (wMet W g)) 0 0 := by
    intro k
    induction k with
    | zero =>
      intro j g hj hg
      have hj : j = R.2.2.2.2.2.2.2 := by omega
      subst hj
      refine hC _ _ _ _ _ _ ?_
      exact And.intro (fun c1 => hK g hg) (fun c1 => absurd (Int32.le_refl _) c1)
    | succ k ih =>
      intro j g hj hg
      obtain ⟨h1, h2, h3, h4, h5⟩ := rOk_ix hro (show j < R.2.2.2.2.2.2.2 by omega)
      refine hC _ _ _ _ _ _ ?_
      refine And.intro (fun c1 => absurd c1 (nI_ge (by omega) (by omega))) (fun c1 => ?_)
      have inner : ∀ k i g, i + k = rpN R j → metOk R g (metB P L R p d) j → (∀ q, q < i → g (j * 3 + q) = bI (metB P L R p d (j * 3 + q))) → C 22 [(0, .ref 0), (1, .ref 14), (2, .int (nI p)), (3, .int d), (4, .ref 16), (5, .int (nI j)), (6, .int (nI i))] [] (wyW P R L T m (wMet W g)) 0 0 := by
        intro k2
        induction k2 with
        | zero =>
          intro i g hi hg hq
          refine hC _ _ _ _ _ _ ?_
          refine ⟨h1, And.intro (fun c2 => ?_) (fun c2 => absurd (by show R.2.2.2.2.1 (nI j).toNatClampNeg ≤ nI i; rw [h2, h3]; exact nI_le (by omega) (by omega)) c2)⟩
          have h9 := ih (j + 1) g (by omega) (fun r q hr hq2 => by
            by_cases e : r = j
            · subst e; exact hq q (by omega)
            · exact hg r q (by omega) hq2)
          rw [← nI_1] at h9
          exact h9
        | succ k2 ih2 =>
          intro i g hi hg hq
          have e2 : nI j * 3 + nI i = nI (j * 3 + i) := by rw [nI_mul3, nI_add]
          have hv2 : vp_in (nI j * 3 + nI i) 48 := by rw [e2]; exact vp_in_nI (by omega) (by omega)
          have hc2 : (nI j * 3 + nI i).toNatClampNeg = j * 3 + i := by rw [e2]; exact nI_clamp (by omega)
          refine hC _ _ _ _ _ _ ?_
          refine ⟨h1, And.intro (fun c2 => absurd (show R.2.2.2.2.1 (nI j).toNatClampNeg ≤ nI i from c2) (by rw [h2, h3]; exact nI_ge (by omega) (by omega))) (fun c2 => ⟨hv2, hv2, ?_⟩)⟩
          refine ⟨P, L, p, _, _, _, rfl, rfl, ho, hL, hp, hv2, ?_⟩
          have h9 := ih2 (i + 1) (upd g (j * 3 + i) (bI (metB P L R p d (j * 3 + i)))) (by omega) (fun r q hr hq2 => by
            have := (rOk_ix hro (show r < R.2.2.2.2.2.2.2 by omega)).2.2.2.1
            rw [pk_un (by omega)]; exact hg r q hr hq2) (fun q hq2 => by
            by_cases e : q = i
            · subst e; exact pk_us
            · rw [pk_un (by omega)]; exact hq q (by omega))
          rw [← nI_1, metB, ← bI_vnar, ← hc2] at h9
          exact h9
      exact inner (rpN R j) 0 g (by omega) hg (fun q hq => absurd hq (Nat.not_lt_zero q))
  exact hC _ _ _ _ _ _ (outer R.2.2.2.2.2.2.2 0 W.2.2.2.2.1 (by omega) (fun r q hr => absurd hr (Nat.not_lt_zero r)))
def opnW (R : RT) (L : LT) (b : Nat → Bool) (kind office day : Int32) (r : Nat) : Bool := allF (fun k => b k || (decide (R.2.2.2.2.2.1 k = kind) && accOn L day (R.2.2.2.2.2.2.1 k) kind office)) (r * 3) (rpN R r)
theorem allF_snoc (f : Nat → Bool) : ∀ n s, allF f s (n + 1) = (allF f s n && f (s + n))
  | 0, s => by simp [allF]
  | n + 1, s => by rw [allF, allF_snoc f n (s + 1), allF, Bool.and_assoc, show s + 1 + n = s + (n + 1) by omega]
def tX10_openRoads : List q_I := [(0, .aload_n 1, 1, 0, 0), (1, .getfield 37, 3, 0, 0), (4, .astore 5, 2, 0, 0), (6, .iconst 0, 1, 0, 0), (7, .istore 6, 2, 0, 0), (9, .iload 6, 2, 0, 0), (11, .aload 5, 2, 0, 0), (13, .getfield 76, 3, 0, 0), (16, .if_icmp .ge 100, 3, 0, 116), (19, .aload_n 0, 1, 0, 0), (20, .getfield 30, 3, 0, 0), (23, .iload 6, 2, 0, 0), (25, .iconst 1, 1, 1, 0), (26, .bastore, 1, 0, 0), (27, .iconst 0, 1, 0, 0), (28, .istore 7, 2, 0, 0), (30, .iload 7, 2, 0, 0), (32, .aload 5, 2, 0, 0), (34, .getfield 43, 3, 0, 0), (37, .iload 6, 2, 0, 0), (39, .iaload, 1, 0, 0), (40, .if_icmp .ge 70, 3, 0, 110), (43, .iload 6, 2, 0, 0), (45, .iconst 3, 1, 3, 0), (46, .imul, 1, 0, 0), (47, .iload 7, 2, 0, 0), (49, .iadd, 1, 0, 0), (50, .istore 8, 2, 0, 0), (52, .aload_n 0, 1, 0, 0), (53, .getfield 27, 3, 0, 0), (56, .iload 8, 2, 0, 0), (58, .baload, 1, 0, 0), (59, .ifCond .ne 45, 3, 0, 104), (62, .aload 5, 2, 0, 0), (64, .getfield 46, 3, 0, 0), (67, .iload 8, 2, 0, 0), (69, .iaload, 1, 0, 0), (70, .iload_n 2, 1, 0, 0), (71, .if_icmp .ne 25, 3, 0, 96), (74, .aload_n 1, 1, 0, 0), (75, .getfield 52, 3, 0, 0), (78, .iload 4, 2, 0, 0), (80, .aload 5, 2, 0, 0), (82, .getfield 49, 3, 0, 0), (85, .iload 8, 2, 0, 0), (87, .iaload, 1, 0, 0), (88, .iload_n 2, 1, 0, 0), (89, .iload_n 3, 1, 0, 0), (90, .invokevirtual 142, 3, 0, 0), (93, .ifCond .ne 11, 3, 0, 104), (96, .aload_n 0, 1, 0, 0), (97, .getfield 30, 3, 0, 0), (100, .iload 6, 2, 0, 0), (102, .iconst 0, 1, 0, 0), (103, .bastore, 1, 0, 0), (104, .iinc 7 1, 3, 1, 0), (107, .goto (-77), 3, 0, 30), (110, .iinc 6 1, 3, 1, 0), (113, .goto (-104), 3, 0, 9), (116, .return_, 1, 0, 0)]
theorem tX10_openRoads_ok : (tX10_openRoads.all (q_okI cX10_openRoads)) = true := by decide +kernel

abbrev fdX10_openRoads : List (Nat ⊕ (Nat × Nat)) := [.inl 0, .inr (0, 1), .inr (0, 2), .inr (0, 3), .inr (0, 4), .inr (0, 5), .inr (0, 6), .inr (0, 0), .inr (7, 0), .inr (7, 1), .inr (7, 2), .inr (7, 3), .inr (7, 4), .inr (7, 5), .inl 1, .inr (14, 0), .inr (14, 5), .inr (16, 0), .inr (16, 1), .inr (16, 2), .inr (16, 3), .inr (16, 4), .inr (16, 5), .inr (16, 6), .inr (14, 6), .inr (24, 0), .inr (24, 1), .inr (24, 2), .inr (24, 3), .inr (24, 4), .inr (24, 5), .inr (24, 6)]
def spX10_openRoads : q_P := fun a w K => ∃ (P : PT) (R : RT) (L : LT) (T : Nat → Int32) (m : Int32) (W : WT) (b : Nat → Bool) (kd of d : Int32), w = wyW P R L T m W ∧ a = [.ref 0, .ref 14, .int kd, .int of, .int d] ∧ rOk R ∧ L_n L ≤ 24 ∧ metOk R W.2.2.2.2.1 b R.2.2.2.2.2.2.2 ∧ ∀ g, (∀ r, r < R.2.2.2.2.2.2.2 → g r = bI (opnW R L b kd of d r)) → K (.inl none) (wyW P R L T m (wOpn W g))
abbrev csX10_openRoads : q_S := (5, 10, 2, 9, 0, 0, fdX10_openRoads, spX10_openRoads)
theorem coX10_142 (l : Launch) : q_CO l RX10 142 csX3_acceptOn := ⟨yX3_acceptOn, cX3_acceptOn, (some .boolean), 4, ⟨by decide +kernel, by decide +kernel, by decide +kernel⟩, q_G_i 4 (by decide +kernel) rfl, Or.inl ⟨by decide, rfl, rfl, q_G_i 933 (by decide +kernel) rfl, q_G_i 837 (by decide +kernel) rfl, q_G_i 838 (by decide +kernel) rfl, Or.inl ⟨q_G_i 839 (by decide +kernel) rfl, ctX3_acceptOn l⟩⟩⟩
def EX10_openRoads : q_E := (tX10_openRoads, [(9, [0, 1, 2, 3, 4, 5, 6]), (30, [0, 1, 2, 3, 4, 5, 6, 7])], 9, flX10, [(142, csX3_acceptOn)], [], [], [], [], [], 2, 0, 0, none, [], [], 0, 0)
theorem okX10_openRoads (l : Launch) : q_Eok l RX10 cX10_openRoads EX10_openRoads := ⟨tX10_openRoads_ok, flX10_ok, List.forall_mem_cons.mpr ⟨(coX10_142 l), q_nil⟩, q_nil, q_nil, q_nil, q_nil, q_nil, (fun h => absurd h (by decide))⟩
set_option maxRecDepth 100000 in
set_option maxHeartbeats 4000000 in
theorem ctX10_openRoads (l : Launch) : q_CT l yX10_openRoads (.code yX10_openRoads cX10_openRoads 9 none) 2 0 0 spX10_openRoads := by
  refine q_ct_of EX10_openRoads (by decide +kernel) (okX10_openRoads l) rfl rfl rfl rfl rfl q_nil (fun ci h => by cases h) rfl ?_
  intro a w K h
  obtain ⟨P, R, L, T, m, W, b, kd, of, d, rfl, rfl, hro, hL, hm, hK⟩ := h
  have hrn := hro.1
  refine ⟨Nat.le_of_ble_eq_true rfl, fun C hC => ?_⟩
  have outer : ∀ k j g, j + k = R.2.2.2.2.2.2.2 → (∀ r, r < j → g r = bI (opnW R L b kd of d r)) → C 9 [(0, .ref 0), (1, .ref 14), (2, .int kd), (3, .int of), (4, .int d), (5, .ref 16), (6, .int (nI j))] [] (wyW P R L T m (wOpn W g)) 0 0 := by
    intro k
    induction k with
    | zero =>
      intro j g hj hg
      have hj : j = R.2.2.2.2.2.2.2 := by omega
      subst hj
      refine hC _ _ _ _ _ _ ?_
      exact And.intro (fun c1 => hK g hg) (fun c1 => absurd (Int32.le_refl _) c1)
    | succ k ih =>
      intro j g hj hg
      have hrj : j < R.2.2.2.2.2.2.2 := by omega
      obtain ⟨h1, h2, h3, h4, h5⟩ := rOk_ix hro hrj
      refine hC _ _ _ _ _ _ ?_
      refine And.intro (fun c1 => absurd c1 (nI_ge (by omega) (by omega))) (fun c1 => ⟨h1, ?_⟩)
      have inner : ∀ k i g, i + k = rpN R j → (∀ r, r < j → g r = bI (opnW R L b kd of d r)) → g j = bI (allF (fun k => b k || (decide (R.2.2.2.2.2.1 k = kd) && accOn L d (R.2.2.2.2.2.2.1 k) kd of)) (j * 3) i) → C 30 [(0, .ref 0), (1, .ref 14), (2, .int kd), (3, .int of), (4, .int d), (5, .ref 16), (6, .int (nI j)), (7, .int (nI i))] [] (wyW P R L T m (wOpn W g)) 0 0 := by
        intro k2
        induction k2 with
        | zero =>
          intro i g hi hg hq
          have hi : i = rpN R j := by omega
          refine hC _ _ _ _ _ _ ?_
          refine ⟨h1, And.intro (fun c2 => ?_) (fun c2 => absurd (by show R.2.2.2.2.1 (nI j).toNatClampNeg ≤ nI i; rw [h2, h3]; exact nI_le (by omega) (by omega)) c2)⟩
          have h9 := ih (j + 1) g (by omega) (fun r hr => by
            by_cases e : r = j
            · subst e; rw [hq, hi]; rfl
            · exact hg r (by omega))
          rw [← nI_1] at h9
          exact h9
        | succ k2 ih2 =>
          intro i g hi hg hq
          have e2 : nI j * 3 + nI i = nI (j * 3 + i) := by rw [nI_mul3, nI_add]
          have hv2 : vp_in (nI j * 3 + nI i) 48 := by rw [e2]; exact vp_in_nI (by omega) (by omega)
          have hc2 : (nI j * 3 + nI i).toNatClampNeg = j * 3 + i := by rw [e2]; exact nI_clamp (by omega)
          have hmi := hm j i hrj (by omega)
          have yes : (b (j * 3 + i) || (decide (R.2.2.2.2.2.1 (j * 3 + i) = kd) && accOn L d (R.2.2.2.2.2.2.1 (j * 3 + i)) kd of)) = true → C 30 [(0, .ref 0), (1, .ref 14), (2, .int kd), (3, .int of), (4, .int d), (5, .ref 16), (6, .int (nI j)), (7, .int (nI i + 1))] [] (wyW P R L T m (wOpn W g)) 0 0 := by
            intro hb
            have h9 := ih2 (i + 1) g (by omega) hg (by rw [allF_snoc, hb, Bool.and_true]; exact hq)
            rw [← nI_1] at h9
            exact h9
          have no : (b (j * 3 + i) || (decide (R.2.2.2.2.2.1 (j * 3 + i) = kd) && accOn L d (R.2.2.2.2.2.2.1 (j * 3 + i)) kd of)) = false → C 30 [(0, .ref 0), (1, .ref 14), (2, .int kd), (3, .int of), (4, .int d), (5, .ref 16), (6, .int (nI j)), (7, .int (nI i + 1))] [] (wyW P R L T m (wOpn W (upd g (nI j).toNatClampNeg 0))) 0 0 := by
            intro hb
            have h9 := ih2 (i + 1) (upd g j 0) (by omega) (fun r hr => by rw [pk_un (by omega)]; exact hg r hr) (by rw [allF_snoc, hb, Bool.and_false]; exact pk_us)
            rw [← nI_1] at h9
            rw [h2]; exact h9
          refine hC _ _ _ _ _ _ ?_
          refine ⟨h1, And.intro (fun c2 => absurd (show R.2.2.2.2.1 (nI j).toNatClampNeg ≤ nI i from c2) (by rw [h2, h3]; exact nI_ge (by omega) (by omega))) (fun c2 => ⟨hv2, And.intro (fun c3 => yes ?_) (fun c3 => ⟨hv2, And.intro (fun c4 => ⟨h1, no ?_⟩) (fun c4 => ⟨hv2, L, _, _, _, _, rfl, rfl, hL, And.intro (fun c5 => yes ?_) (fun c5 => ⟨h1, no ?_⟩)⟩)⟩)⟩)⟩
          · have c3 : ¬ W.2.2.2.2.1 (nI j * 3 + nI i).toNatClampNeg = 0 := c3
            rw [hc2, hmi] at c3
            rw [bI_n0.mp c3, Bool.true_or]
          · have c3 : W.2.2.2.2.1 (nI j * 3 + nI i).toNatClampNeg = 0 := c3
            have c4 : ¬ R.2.2.2.2.2.1 (nI j * 3 + nI i).toNatClampNeg = kd := c4
            rw [hc2] at c4
            rw [hc2, hmi] at c3
            rw [bI_0.mp c3, decide_eq_false c4, Bool.false_and, Bool.or_self]
          · have c4 : R.2.2.2.2.2.1 (nI j * 3 + nI i).toNatClampNeg = kd := c4
            have c5 : ¬ bI (accOn L d (R.2.2.2.2.2.2.1 (nI j * 3 + nI i).toNatClampNeg) kd of) = 0 := c5
            rw [hc2] at c4 c5
            rw [decide_eq_true c4, bI_n0.mp c5, Bool.and_self, Bool.or_true]
          · have c3 : W.2.2.2.2.1 (nI j * 3 + nI i).toNatClampNeg = 0 := c3
            have c5 : bI (accOn L d (R.2.2.2.2.2.2.1 (nI j * 3 + nI i).toNatClampNeg) kd of) = 0 := c5
            rw [hc2] at c5
            rw [hc2, hmi] at c3
            rw [bI_0.mp c3, bI_0.mp c5, Bool.and_false, Bool.or_self]
      have h9 := inner (rpN R j) 0 (upd g j 1) (by omega) (fun r hr => by rw [pk_un (by omega)]; exact hg r hr) pk_us
      have e1 : upd g j 1 = upd g (nI j).toNatClampNeg 1 := by rw [h2]
      rw [e1] at h9
      exact h9
  exact hC _ _ _ _ _ _ (outer R.2.2.2.2.2.2.2 0 W.2.2.2.2.2 (by omega) (fun r hr => absurd hr (Nat.not_lt_zero r)))
def coinR (R : RT) (b : Nat → Bool) : Nat → (Nat → Int32) → (Nat → Int32)
  | 0, f => f
  | k + 1, f => coinR R b k (foldF (fun f r => if b r then coinE R f r else f) 0 R.2.2.2.2.2.2.2 f)
def coinsF (P : PT) (L : LT) (R : RT) (p n x : Nat) (d : Int32) (f : Nat → Int32) : Nat → Int32 := coinR R (opnW R L (metB P L R p d) (-1) (-1) d) (n - 1) (upd (zf 1000000 f 8) x 0)
def tX10_findCoins : List q_I := [(0, .aload_n 0, 1, 0, 0), (1, .aload_n 1, 1, 0, 0), (2, .iload_n 2, 1, 0, 0), (3, .iload_n 3, 1, 0, 0), (4, .invokevirtual 117, 3, 0, 0), (7, .aload_n 0, 1, 0, 0), (8, .aload_n 1, 1, 0, 0), (9, .iconst (-1), 1, (-1), 0), (10, .iconst (-1), 1, (-1), 0), (11, .iload_n 3, 1, 0, 0), (12, .invokevirtual 121, 3, 0, 0), (15, .aload_n 0, 1, 0, 0), (16, .aload_n 0, 1, 0, 0), (17, .getfield 33, 3, 0, 0), (20, .getfield 62, 3, 0, 0), (23, .iload_n 2, 1, 0, 0), (24, .iaload, 1, 0, 0), (25, .iconst 0, 1, 0, 0), (26, .invokevirtual 65, 3, 0, 0), (29, .iconst 1, 1, 1, 0), (30, .istore 4, 2, 0, 0), (32, .iload 4, 2, 0, 0), (34, .aload_n 1, 1, 0, 0), (35, .getfield 69, 3, 0, 0), (38, .iconst 0, 1, 0, 0), (39, .iaload, 1, 0, 0), (40, .if_icmp .ge 50, 3, 0, 90), (43, .iconst 0, 1, 0, 0), (44, .istore 5, 2, 0, 0), (46, .iload 5, 2, 0, 0), (48, .aload_n 1, 1, 0, 0), (49, .getfield 37, 3, 0, 0), (52, .getfield 76, 3, 0, 0), (55, .if_icmp .ge 29, 3, 0, 84), (58, .aload_n 0, 1, 0, 0), (59, .getfield 30, 3, 0, 0), (62, .iload 5, 2, 0, 0), (64, .baload, 1, 0, 0), (65, .ifCond .eq 13, 3, 0, 78), (68, .aload_n 0, 1, 0, 0), (69, .aload_n 1, 1, 0, 0), (70, .getfield 37, 3, 0, 0), (73, .iload 5, 2, 0, 0), (75, .invokevirtual 125, 3, 0, 0), (78, .iinc 5 1, 3, 1, 0), (81, .goto (-35), 3, 0, 46), (84, .iinc 4 1, 3, 1, 0), (87, .goto (-55), 3, 0, 32), (90, .return_, 1, 0, 0)]
theorem tX10_findCoins_ok : (tX10_findCoins.all (q_okI cX10_findCoins)) = true := by decide +kernel

abbrev fdX10_findCoins : List (Nat ⊕ (Nat × Nat)) := [.inl 0, .inr (0, 1), .inr (0, 2), .inr (0, 3), .inr (0, 4), .inr (0, 5), .inr (0, 6), .inr (0, 0), .inr (7, 0), .inr (7, 1), .inr (7, 2), .inr (7, 3), .inr (7, 4), .inr (7, 5), .inl 1, .inr (14, 0), .inr (14, 5), .inr (16, 0), .inr (16, 1), .inr (16, 2), .inr (16, 3), .inr (16, 4), .inr (16, 5), .inr (16, 6), .inr (14, 6), .inr (24, 0), .inr (24, 1), .inr (24, 2), .inr (24, 3), .inr (24, 4), .inr (24, 5), .inr (24, 6)]
def spX10_findCoins : q_P := fun a w K => ∃ (P : PT) (R : RT) (L : LT) (T : Nat → Int32) (m : Int32) (W : WT) (n p x : Nat) (d : Int32), w = wyW P R L T m W ∧ a = [.ref 0, .ref 14, .int (nI p), .int d] ∧ pOk P ∧ rOk R ∧ rEnd R n ∧ L_n L ≤ 24 ∧ T 0 = nI n ∧ n ≤ 8 ∧ p < P.2.2.2.2.2.2 ∧ P.1 p = nI x ∧ x < 8 ∧ ∀ V, V.1 = coinsF P L R p n x d W.1 → K (.inl none) (wyW P R L T m V)
abbrev csX10_findCoins : q_S := (4, 10, 4, 6, 0, 0, fdX10_findCoins, spX10_findCoins)
theorem coX10_117 (l : Launch) : q_CO l RX10 117 csX10_meetPosts := ⟨yX10_meetPosts, cX10_meetPosts, none, 3, ⟨by decide +kernel, by decide +kernel, by decide +kernel⟩, q_G_i 12 (by decide +kernel) rfl, Or.inl ⟨by decide, rfl, rfl, q_G_i 925 (by decide +kernel) rfl, q_G_i 927 (by decide +kernel) rfl, q_G_s (n := 7) 32 (by decide +kernel), Or.inl ⟨q_G_i 928 (by decide +kernel) rfl, ctX10_meetPosts l⟩⟩⟩
theorem coX10_121 (l : Launch) : q_CO l RX10 121 csX10_openRoads := ⟨yX10_openRoads, cX10_openRoads, none, 4, ⟨by decide +kernel, by decide +kernel, by decide +kernel⟩, q_G_i 12 (by decide +kernel) rfl, Or.inl ⟨by decide, rfl, rfl, q_G_i 929 (by decide +kernel) rfl, q_G_i 931 (by decide +kernel) rfl, q_G_s (n := 7) 33 (by decide +kernel), Or.inl ⟨q_G_i 932 (by decide +kernel) rfl, ctX10_openRoads l⟩⟩⟩
theorem coX10_125 (l : Launch) : q_CO l RX10 125 csX10_lowerEnds := ⟨yX10_lowerEnds, cX10_lowerEnds, none, 2, ⟨by decide +kernel, by decide +kernel, by decide +kernel⟩, q_G_i 12 (by decide +kernel) rfl, Or.inl ⟨by decide, rfl, rfl, q_G_i 934 (by decide +kernel) rfl, q_G_i 936 (by decide +kernel) rfl, q_G_s (n := 7) 34 (by decide +kernel), Or.inl ⟨q_G_i 937 (by decide +kernel) rfl, ctX10_lowerEnds l⟩⟩⟩
def EX10_findCoins : q_E := (tX10_findCoins, [(32, [0, 1, 4]), (46, [0, 1, 4, 5])], 6, flX10, [(117, csX10_meetPosts), (121, csX10_openRoads), (65, csX10_begin), (125, csX10_lowerEnds)], [], [], [], [], [], 4, 0, 0, none, [], [], 0, 0)
theorem okX10_findCoins (l : Launch) : q_Eok l RX10 cX10_findCoins EX10_findCoins := ⟨tX10_findCoins_ok, flX10_ok, List.forall_mem_cons.mpr ⟨(coX10_117 l), List.forall_mem_cons.mpr ⟨(coX10_121 l), List.forall_mem_cons.mpr ⟨(coX10_65 l), List.forall_mem_cons.mpr ⟨(coX10_125 l), q_nil⟩⟩⟩⟩, q_nil, q_nil, q_nil, q_nil, q_nil, (fun h => absurd h (by decide))⟩
set_option maxRecDepth 100000 in
set_option maxHeartbeats 4000000 in
theorem ctX10_findCoins (l : Launch) : q_CT l yX10_findCoins (.code yX10_findCoins cX10_findCoins 6 none) 4 0 0 spX10_findCoins := by
  refine q_ct_of EX10_findCoins (by decide +kernel) (okX10_findCoins l) rfl rfl rfl rfl rfl q_nil (fun ci h => by cases h) rfl ?_
  intro a w K h
  obtain ⟨P, R, L, T, m, W, n, p, x, d, rfl, rfl, ho, hro, hre, hL, hT, hn, hp, hx, hx8, hK⟩ := h
  obtain ⟨p1, p2, p3, p4, p5⟩ := pOk_ix ho hp
  have hrn := hro.1
  refine ⟨Nat.le_of_ble_eq_true rfl, fun C hC => hC _ _ _ _ _ _ ?_⟩
  refine ⟨P, R, L, T, m, W, p, d, rfl, rfl, ho, hro, hL, hp, fun g1 hg1 => ?_⟩
  refine ⟨P, R, L, T, m, wMet W g1, metB P L R p d, _, _, _, rfl, rfl, hro, hL, hg1, fun g2 hg2 => ?_⟩
  refine ⟨p1, wOpn (wMet W g1) g2, _, x, _, rfl, (show [Value.ref 0, .int (P.1 (nI p).toNatClampNeg), .int 0] = _ by rw [p2, hx]), hx8, ?_⟩
  have outer : ∀ k i V, i + k = n - 1 → V.2.2.2.2.2 = g2 → coinsF P L R p n x d W.1 = coinR R (opnW R L (metB P L R p d) (-1) (-1) d) k V.1 → C 32 [(0, .ref 0), (1, .ref 14), (4, .int (nI (i + 1)))] [] (wyW P R L T m V) 0 0 := by
    intro k
    induction k with
    | zero =>
      intro i V hi hV he
      refine hC _ _ _ _ _ _ ?_
      refine ⟨vp_in_nI (n := 0) (by decide) (by decide), And.intro (fun c1 => hK V (by rw [he]; rfl)) (fun c1 => absurd (by show T 0 ≤ nI (i + 1); rw [hT]; exact nI_le (by omega) (by omega)) c1)⟩
    | succ k ih =>
      intro i V hi hV he
      refine hC _ _ _ _ _ _ ?_
      refine ⟨vp_in_nI (n := 0) (by decide) (by decide), And.intro (fun c1 => absurd (show T 0 ≤ nI (i + 1) from c1) (by rw [hT]; exact nI_ge (by omega) (by omega))) (fun c1 => ?_)⟩
      have inner : ∀ k2 j V, j + k2 = R.2.2.2.2.2.2.2 → V.2.2.2.2.2 = g2 → coinsF P L R p n x d W.1 = coinR R (opnW R L (metB P L R p d) (-1) (-1) d) k (foldF (fun f r => if opnW R L (metB P L R p d) (-1) (-1) d r then coinE R f r else f) j k2 V.1) → C 46 [(0, .ref 0), (1, .ref 14), (4, .int (nI (i + 1))), (5, .int (nI j))] [] (wyW P R L T m V) 0 0 := by
        intro k2
        induction k2 with
        | zero =>
          intro j V hj hV he
          refine hC _ _ _ _ _ _ ?_
          refine And.intro (fun c3 => ?_) (fun c3 => absurd (nI_le (by omega) (by omega)) c3)
          have h9 := ih (i + 1) V (by omega) hV he
          rw [← nI_1 (i + 1)] at h9
          exact h9
        | succ k2 ih2 =>
          intro j V hj hV he
          have hrj : j < R.2.2.2.2.2.2.2 := by omega
          have hcj : (nI j).toNatClampNeg = j := nI_clamp (by omega)
          have hg := hg2 j hrj
          rw [foldF] at he
          refine hC _ _ _ _ _ _ ?_
          refine And.intro (fun c3 => absurd c3 (nI_ge (by omega) (by omega))) (fun c3 => ⟨vp_in_nI (by omega) (by omega), And.intro (fun c4 => ?_) (fun c4 => ?_)⟩)
          · have c4 : V.2.2.2.2.2 (nI j).toNatClampNeg = 0 := c4
            rw [hcj, hV, hg] at c4
            have h9 := ih2 (j + 1) V (by omega) hV (by rw [if_neg (by rw [bI_0.mp c4]; decide)] at he; exact he)
            rw [← nI_1 j] at h9
            exact h9
          · have c4 : ¬ V.2.2.2.2.2 (nI j).toNatClampNeg = 0 := c4
            rw [hcj, hV, hg] at c4
            refine ⟨R, V, _, n, j, rfl, rfl, hrn, hre, hn, hrj, ?_⟩
            have h9 := ih2 (j + 1) (coinE R V.1 j, V.2) (by omega) hV (by rw [if_pos (bI_n0.mp c4)] at he; exact he)
            rw [← nI_1 j] at h9
            exact h9
      exact inner R.2.2.2.2.2.2.2 0 V (by omega) hV he
  exact outer (n - 1) 0 _ (by omega) rfl rfl
def sprOne (R : RT) (b : Nat → Bool) (x : Int32) (r : Nat) : Int32 := if b r = true ∧ ¬ x &&& ((1 : Int32) <<< (R.1 r &&& 31) ||| (1 : Int32) <<< (R.2.1 r &&& 31)) = 0 then x ||| ((1 : Int32) <<< (R.1 r &&& 31) ||| (1 : Int32) <<< (R.2.1 r &&& 31)) else x
def sprR (R : RT) (b : Nat → Bool) : Nat → Int32 → Int32
  | 0, x => x
  | k + 1, x => sprR R b k (foldF (sprOne R b) 0 R.2.2.2.2.2.2.2 x)
def sprF (R : RT) (b : Nat → Bool) (n : Nat) (x : Int32) : Int32 := sprR R b (n - 1) ((1 : Int32) <<< (x &&& 31))
def tX10_spread : List q_I := [(0, .aload_n 0, 1, 0, 0), (1, .getfield 37, 3, 0, 0), (4, .astore_n 3, 1, 0, 0), (5, .iconst 1, 1, 1, 0), (6, .iload_n 2, 1, 0, 0), (7, .ishl, 1, 0, 0), (8, .istore 4, 2, 0, 0), (10, .iconst 1, 1, 1, 0), (11, .istore 5, 2, 0, 0), (13, .iload 5, 2, 0, 0), (15, .aload_n 0, 1, 0, 0), (16, .getfield 69, 3, 0, 0), (19, .iconst 0, 1, 0, 0), (20, .iaload, 1, 0, 0), (21, .if_icmp .ge 77, 3, 0, 98), (24, .iconst 0, 1, 0, 0), (25, .istore 6, 2, 0, 0), (27, .iload 6, 2, 0, 0), (29, .aload_n 3, 1, 0, 0), (30, .getfield 76, 3, 0, 0), (33, .if_icmp .ge 59, 3, 0, 92), (36, .iload 6, 2, 0, 0), (38, .aload_n 1, 1, 0, 0), (39, .arraylength, 1, 0, 0), (40, .if_icmp .ge 52, 3, 0, 92), (43, .iconst 1, 1, 1, 0), (44, .aload_n 3, 1, 0, 0), (45, .getfield 129, 3, 0, 0), (48, .iload 6, 2, 0, 0), (50, .iaload, 1, 0, 0), (51, .ishl, 1, 0, 0), (52, .iconst 1, 1, 1, 0), (53, .aload_n 3, 1, 0, 0), (54, .getfield 132, 3, 0, 0), (57, .iload 6, 2, 0, 0), (59, .iaload, 1, 0, 0), (60, .ishl, 1, 0, 0), (61, .ior, 1, 0, 0), (62, .istore 7, 2, 0, 0), (64, .aload_n 1, 1, 0, 0), (65, .iload 6, 2, 0, 0), (67, .baload, 1, 0, 0), (68, .ifCond .eq 18, 3, 0, 86), (71, .iload 4, 2, 0, 0), (73, .iload 7, 2, 0, 0), (75, .iand, 1, 0, 0), (76, .ifCond .eq 10, 3, 0, 86), (79, .iload 4, 2, 0, 0), (81, .iload 7, 2, 0, 0), (83, .ior, 1, 0, 0), (84, .istore 4, 2, 0, 0), (86, .iinc 6 1, 3, 1, 0), (89, .goto (-62), 3, 0, 27), (92, .iinc 5 1, 3, 1, 0), (95, .goto (-82), 3, 0, 13), (98, .iload 4, 2, 0, 0), (100, .ireturn, 1, 0, 0)]
theorem tX10_spread_ok : (tX10_spread.all (q_okI cX10_spread)) = true := by decide +kernel

abbrev fdX10_spread : List (Nat ⊕ (Nat × Nat)) := [.inl 0, .inr (0, 0), .inr (0, 5), .inr (2, 0), .inr (2, 1), .inr (2, 2), .inr (2, 3), .inr (2, 4), .inr (2, 5), .inr (2, 6), .inl 1]
def spX10_spread : q_P := fun a w K => ∃ (R : RT) (T g : Nat → Int32) (b : Nat → Bool) (n : Nat) (x : Int32) (v1 v2 v3 v4 v6 v7 : Value), w = [.inr (0, [.ref 1, v1, v2, v3, v4, .ref 2, v6, v7]), .inl (1, 4, .inl T)] ++ (roadsW 2 R ++ [.inl (3, 16, .inl g)]) ∧ a = [.ref 0, .ref 10, .int x] ∧ R.2.2.2.2.2.2.2 ≤ 16 ∧ T 0 = nI n ∧ n ≤ 8 ∧ (∀ r, r < R.2.2.2.2.2.2.2 → g r = bI (b r)) ∧ K (.inl (some (.int (sprF R b n x)))) w
abbrev csX10_spread : q_S := (3, 99, 0, 8, 0, 0, fdX10_spread, spX10_spread)
def EX10_spread : q_E := (tX10_spread, [(13, [0, 1, 3, 4, 5]), (27, [0, 1, 3, 4, 5, 6])], 8, flX10, [], [], [], [], [], [], 0, 0, 0, (some .int), [], [], 0, 0)
theorem okX10_spread (l : Launch) : q_Eok l RX10 cX10_spread EX10_spread := ⟨tX10_spread_ok, flX10_ok, q_nil, q_nil, q_nil, q_nil, q_nil, q_nil, (fun h => absurd h (by decide))⟩
set_option maxRecDepth 100000 in
set_option maxHeartbeats 4000000 in
theorem ctX10_spread (l : Launch) : q_CT l yX10_spread (.code yX10_spread cX10_spread 8 (some .int)) 0 0 0 spX10_spread := by
  refine q_ct_of EX10_spread (by decide +kernel) (okX10_spread l) rfl rfl rfl rfl rfl q_nil (fun ci h => by cases h) rfl ?_
  intro a w K h
  obtain ⟨R, T, g, b, n, x, v1, v2, v3, v4, v6, v7, rfl, rfl, hrn, hT, hn, hg, hK⟩ := h
  refine ⟨Nat.le_of_ble_eq_true rfl, fun C hC => hC _ _ _ _ _ _ ?_⟩
  have outer : ∀ k i y, i + k = n - 1 → sprF R b n x = sprR R b k y → C 13 [(0, .ref 0), (1, .ref 10), (3, .ref 2), (4, .int y), (5, .int (nI (i + 1)))] [] ([.inr (0, [.ref 1, v1, v2, v3, v4, .ref 2, v6, v7]), .inl (1, 4, .inl T)] ++ (roadsW 2 R ++ [.inl (3, 16, .inl g)])) 0 0 := by
    intro k
    induction k with
    | zero =>
      intro i y hi he
      refine hC _ _ _ _ _ _ ?_
      refine ⟨vp_in_nI (n := 0) (by decide) (by decide), And.intro (fun c1 => ?_) (fun c1 => absurd (by show T 0 ≤ nI (i + 1); rw [hT]; exact nI_le (by omega) (by omega)) c1)⟩
      rw [he] at hK; exact hK
    | succ k ih =>
      intro i y hi he
      refine hC _ _ _ _ _ _ ?_
      refine ⟨vp_in_nI (n := 0) (by decide) (by decide), And.intro (fun c1 => absurd (show T 0 ≤ nI (i + 1) from c1) (by rw [hT]; exact nI_ge (by omega) (by omega))) (fun c1 => ?_)⟩
      have inner : ∀ k2 j y, j + k2 = R.2.2.2.2.2.2.2 → sprF R b n x = sprR R b k (foldF (sprOne R b) j k2 y) → C 27 [(0, .ref 0), (1, .ref 10), (3, .ref 2), (4, .int y), (5, .int (nI (i + 1))), (6, .int (nI j))] [] ([.inr (0, [.ref 1, v1, v2, v3, v4, .ref 2, v6, v7]), .inl (1, 4, .inl T)] ++ (roadsW 2 R ++ [.inl (3, 16, .inl g)])) 0 0 := by
        intro k2
        induction k2 with
        | zero =>
          intro j y hj he
          refine hC _ _ _ _ _ _ ?_
          refine And.intro (fun c3 => ?_) (fun c3 => absurd (nI_le (by omega) (by omega)) c3)
          have h9 := ih (i + 1) y (by omega) he
          rw [← nI_1 (i + 1)] at h9
          exact h9
        | succ k2 ih2 =>
          intro j y hj he
          have hrj : j < R.2.2.2.2.2.2.2 := by omega
          have hcj : (nI j).toNatClampNeg = j := nI_clamp (by omega)
          have hv : vp_in (nI j) 16 := vp_in_nI (by omega) (by omega)
          rw [foldF] at he
          have nx : ∀ z, sprOne R b y j = z → C 27 [(0, .ref 0), (1, .ref 10), (3, .ref 2), (4, .int z), (5, .int (nI (i + 1))), (6, .int (nI j + 1))] [] ([.inr (0, [.ref 1, v1, v2, v3, v4, .ref 2, v6, v7]), .inl (1, 4, .inl T)] ++ (roadsW 2 R ++ [.inl (3, 16, .inl g)])) 0 0 := by
            intro z e
            rw [e] at he
            have h9 := ih2 (j + 1) z (by omega) he
            rw [← nI_1 j] at h9
            exact h9
          refine hC _ _ _ _ _ _ ?_
          refine And.intro (fun c3 => absurd c3 (nI_ge (by omega) (by omega))) (fun c3 => ⟨Or.inr (Or.inr (Or.inr rfl)), And.intro (fun c4 => absurd c4 (nI_ge (b := 16) (by omega) (by omega))) (fun c4 => ⟨hv, hv, hv, And.intro (fun c5 => nx _ ?_) (fun c5 => And.intro (fun c6 => nx _ ?_) (fun c6 => nx _ ?_))⟩)⟩)
          · have c5 : g (nI j).toNatClampNeg = 0 := c5
            rw [hcj, hg j hrj] at c5
            exact if_neg (fun z => by rw [bI_0.mp c5] at z; exact absurd z.1 (by decide))
          · have c6 : y &&& ((1 : Int32) <<< (R.1 (nI j).toNatClampNeg &&& 31) ||| (1 : Int32) <<< (R.2.1 (nI j).toNatClampNeg &&& 31)) = 0 := c6
            rw [hcj] at c6
            exact if_neg (fun z => z.2 c6)
          · have c5 : ¬ g (nI j).toNatClampNeg = 0 := c5
            have c6 : ¬ y &&& ((1 : Int32) <<< (R.1 (nI j).toNatClampNeg &&& 31) ||| (1 : Int32) <<< (R.2.1 (nI j).toNatClampNeg &&& 31)) = 0 := c6
            rw [hcj, hg j hrj] at c5
            rw [hcj] at c6
            rw [hcj]
            exact if_pos ⟨bI_n0.mp c5, c6⟩
      exact inner R.2.2.2.2.2.2.2 0 y (by omega) he
  exact outer (n - 1) 0 _ (by omega) rfl
def rchF (L : LT) (R : RT) (b : Nat → Bool) (n x : Nat) (kd of d : Int32) : Int32 := bcI (sprF R (opnW R L b kd of d) n (nI x))
def tX10_reachWith : List q_I := [(0, .aload_n 0, 1, 0, 0), (1, .aload_n 1, 1, 0, 0), (2, .iload_n 3, 1, 0, 0), (3, .iload 4, 2, 0, 0), (5, .iload 5, 2, 0, 0), (7, .invokevirtual 121, 3, 0, 0), (10, .aload_n 1, 1, 0, 0), (11, .aload_n 0, 1, 0, 0), (12, .getfield 30, 3, 0, 0), (15, .aload_n 0, 1, 0, 0), (16, .getfield 33, 3, 0, 0), (19, .getfield 62, 3, 0, 0), (22, .iload_n 2, 1, 0, 0), (23, .iaload, 1, 0, 0), (24, .invokestatic 146, 3, 0, 0), (27, .invokestatic 150, 3, 0, 0), (30, .ireturn, 1, 0, 0)]
theorem tX10_reachWith_ok : (tX10_reachWith.all (q_okI cX10_reachWith)) = true := by decide +kernel

abbrev fdX10_reachWith : List (Nat ⊕ (Nat × Nat)) := [.inl 0, .inr (0, 1), .inr (0, 2), .inr (0, 3), .inr (0, 4), .inr (0, 5), .inr (0, 6), .inr (0, 0), .inr (7, 0), .inr (7, 1), .inr (7, 2), .inr (7, 3), .inr (7, 4), .inr (7, 5), .inl 1, .inr (14, 0), .inr (14, 5), .inr (16, 0), .inr (16, 1), .inr (16, 2), .inr (16, 3), .inr (16, 4), .inr (16, 5), .inr (16, 6), .inr (14, 6), .inr (24, 0), .inr (24, 1), .inr (24, 2), .inr (24, 3), .inr (24, 4), .inr (24, 5), .inr (24, 6)]
def spX10_reachWith : q_P := fun a w K => ∃ (P : PT) (R : RT) (L : LT) (T : Nat → Int32) (m : Int32) (W : WT) (b : Nat → Bool) (n p x : Nat) (kd of d : Int32), w = wyW P R L T m W ∧ a = [.ref 0, .ref 14, .int (nI p), .int kd, .int of, .int d] ∧ pOk P ∧ rOk R ∧ L_n L ≤ 24 ∧ metOk R W.2.2.2.2.1 b R.2.2.2.2.2.2.2 ∧ T 0 = nI n ∧ n ≤ 8 ∧ p < P.2.2.2.2.2.2 ∧ P.1 p = nI x ∧ ∀ g, K (.inl (some (.int (rchF L R b n x kd of d)))) (wyW P R L T m (wOpn W g))
abbrev csX10_reachWith : q_S := (6, 10, 3, 6, 0, 0, fdX10_reachWith, spX10_reachWith)
theorem coX10_146 (l : Launch) : q_CO l RX10 146 csX10_spread := ⟨yX10_spread, cX10_spread, (some .int), 3, ⟨by decide +kernel, by decide +kernel, by decide +kernel⟩, q_G_i 12 (by decide +kernel) rfl, Or.inr (Or.inr (Or.inr ⟨rfl, rfl, q_G_i 954 (by decide +kernel) rfl, q_G_i 955 (by decide +kernel) rfl, Or.inl ⟨q_G_i 956 (by decide +kernel) rfl, ctX10_spread l⟩⟩))⟩
theorem coX10_150 (l : Launch) : q_CO l RX10 150 csJ6_bitCount_0f7a4 := ⟨yJ6_bitCount_0f7a4, cJ6_bitCount_0f7a4, (some .int), 1, ⟨by decide +kernel, by decide +kernel, by decide +kernel⟩, q_G_i 24 (by decide +kernel) rfl, Or.inr (Or.inr (Or.inr ⟨rfl, rfl, q_G_i 957 (by decide +kernel) rfl, q_G_i 958 (by decide +kernel) rfl, Or.inl ⟨q_G_i 959 (by decide +kernel) rfl, ctJ6_bitCount_0f7a4 l⟩⟩))⟩
def EX10_reachWith : q_E := (tX10_reachWith, [], 6, flX10, [(121, csX10_openRoads), (146, csX10_spread), (150, csJ6_bitCount_0f7a4)], [], [], [], [], [], 3, 0, 0, (some .int), [], [], 0, 0)
theorem okX10_reachWith (l : Launch) : q_Eok l RX10 cX10_reachWith EX10_reachWith := ⟨tX10_reachWith_ok, flX10_ok, List.forall_mem_cons.mpr ⟨(coX10_121 l), List.forall_mem_cons.mpr ⟨(coX10_146 l), List.forall_mem_cons.mpr ⟨(coX10_150 l), q_nil⟩⟩⟩, q_nil, q_nil, q_nil, q_nil, q_nil, (fun h => absurd h (by decide))⟩
set_option maxRecDepth 100000 in
set_option maxHeartbeats 4000000 in
theorem ctX10_reachWith (l : Launch) : q_CT l yX10_reachWith (.code yX10_reachWith cX10_reachWith 6 (some .int)) 3 0 0 spX10_reachWith := by
  refine q_ct_of EX10_reachWith (by decide +kernel) (okX10_reachWith l) rfl rfl rfl rfl rfl q_nil (fun ci h => by cases h) rfl ?_
  intro a w K h
  obtain ⟨P, R, L, T, m, W, b, n, p, x, kd, of, d, rfl, rfl, ho, hro, hL, hm, hT, hn, hp, hx, hK⟩ := h
  obtain ⟨p1, p2, p3, p4, p5⟩ := pOk_ix ho hp
  have hrn := hro.1
  refine ⟨Nat.le_of_ble_eq_true rfl, fun C hC => hC _ _ _ _ _ _ ?_⟩
  refine ⟨P, R, L, T, m, W, b, _, _, _, rfl, rfl, hro, hL, hm, fun g hg => ?_⟩
  refine ⟨p1, R, T, g, opnW R L b kd of d, n, nI x, _, _, _, _, _, _, rfl, (show [Value.ref 0, .ref 10, .int (P.1 (nI p).toNatClampNeg)] = _ by rw [p2, hx]), hrn, hT, hn, hg, ?_⟩
  refine ⟨_, rfl, rfl, ?_⟩
  exact hK g
def tX10_countReach : List q_I := [(0, .aload_n 0, 1, 0, 0), (1, .aload_n 1, 1, 0, 0), (2, .iload_n 2, 1, 0, 0), (3, .iload_n 3, 1, 0, 0), (4, .invokevirtual 117, 3, 0, 0), (7, .aload_n 0, 1, 0, 0), (8, .aload_n 1, 1, 0, 0), (9, .iload_n 2, 1, 0, 0), (10, .iconst (-1), 1, (-1), 0), (11, .iconst (-1), 1, (-1), 0), (12, .iload_n 3, 1, 0, 0), (13, .invokevirtual 138, 3, 0, 0), (16, .ireturn, 1, 0, 0)]
theorem tX10_countReach_ok : (tX10_countReach.all (q_okI cX10_countReach)) = true := by decide +kernel

abbrev fdX10_countReach : List (Nat ⊕ (Nat × Nat)) := [.inl 0, .inr (0, 1), .inr (0, 2), .inr (0, 3), .inr (0, 4), .inr (0, 5), .inr (0, 6), .inr (0, 0), .inr (7, 0), .inr (7, 1), .inr (7, 2), .inr (7, 3), .inr (7, 4), .inr (7, 5), .inl 1, .inr (14, 0), .inr (14, 5), .inr (16, 0), .inr (16, 1), .inr (16, 2), .inr (16, 3), .inr (16, 4), .inr (16, 5), .inr (16, 6), .inr (14, 6), .inr (24, 0), .inr (24, 1), .inr (24, 2), .inr (24, 3), .inr (24, 4), .inr (24, 5), .inr (24, 6)]
def spX10_countReach : q_P := fun a w K => ∃ (P : PT) (R : RT) (L : LT) (T : Nat → Int32) (m : Int32) (W : WT) (n p x : Nat) (d : Int32), w = wyW P R L T m W ∧ a = [.ref 0, .ref 14, .int (nI p), .int d] ∧ pOk P ∧ rOk R ∧ L_n L ≤ 24 ∧ T 0 = nI n ∧ n ≤ 8 ∧ p < P.2.2.2.2.2.2 ∧ P.1 p = nI x ∧ ∀ V, K (.inl (some (.int (rchF L R (metB P L R p d) n x (-1) (-1) d)))) (wyW P R L T m V)
abbrev csX10_countReach : q_S := (4, 10, 4, 4, 0, 0, fdX10_countReach, spX10_countReach)
theorem coX10_138 (l : Launch) : q_CO l RX10 138 csX10_reachWith := ⟨yX10_reachWith, cX10_reachWith, (some .int), 5, ⟨by decide +kernel, by decide +kernel, by decide +kernel⟩, q_G_i 12 (by decide +kernel) rfl, Or.inl ⟨by decide, rfl, rfl, q_G_i 950 (by decide +kernel) rfl, q_G_i 952 (by decide +kernel) rfl, q_G_s (n := 7) 36 (by decide +kernel), Or.inl ⟨q_G_i 953 (by decide +kernel) rfl, ctX10_reachWith l⟩⟩⟩
def EX10_countReach : q_E := (tX10_countReach, [], 4, flX10, [(117, csX10_meetPosts), (138, csX10_reachWith)], [], [], [], [], [], 4, 0, 0, (some .int), [], [], 0, 0)
theorem okX10_countReach (l : Launch) : q_Eok l RX10 cX10_countReach EX10_countReach := ⟨tX10_countReach_ok, flX10_ok, List.forall_mem_cons.mpr ⟨(coX10_117 l), List.forall_mem_cons.mpr ⟨(coX10_138 l), q_nil⟩⟩, q_nil, q_nil, q_nil, q_nil, q_nil, (fun h => absurd h (by decide))⟩
set_option maxRecDepth 100000 in
set_option maxHeartbeats 4000000 in
theorem ctX10_countReach (l : Launch) : q_CT l yX10_countReach (.code yX10_countReach cX10_countReach 4 (some .int)) 4 0 0 spX10_countReach := by
  refine q_ct_of EX10_countReach (by decide +kernel) (okX10_countReach l) rfl rfl rfl rfl rfl q_nil (fun ci h => by cases h) rfl ?_
  intro a w K h
  obtain ⟨P, R, L, T, m, W, n, p, x, d, rfl, rfl, ho, hro, hL, hT, hn, hp, hx, hK⟩ := h
  refine ⟨Nat.le_of_ble_eq_true rfl, fun C hC => hC _ _ _ _ _ _ ?_⟩
  refine ⟨P, R, L, T, m, W, p, d, rfl, rfl, ho, hro, hL, hp, fun g1 hg1 => ?_⟩
  refine ⟨P, R, L, T, m, wMet W g1, metB P L R p d, n, p, x, _, _, _, rfl, rfl, ho, hro, hL, hg1, hT, hn, hp, hx, fun g => ?_⟩
  exact hK _
def boOne (f : Nat → Nat → Int32) (k : Nat) (s : Int32 × Int32) (o : Nat) : Int32 × Int32 := if s.1 < f k o then (f k o, 8 * nI k + nI o) else s
def boF (f : Nat → Nat → Int32) (nk no : Nat) (m0 : Int32) : Int32 := (foldF (fun s k => foldF (boOne f k) 0 no s) 0 nk (m0, -2)).2
def tX10_bestOpener : List q_I := [(0, .aload_n 0, 1, 0, 0), (1, .aload_n 1, 1, 0, 0), (2, .iload_n 2, 1, 0, 0), (3, .iload_n 3, 1, 0, 0), (4, .invokevirtual 117, 3, 0, 0), (7, .aload_n 0, 1, 0, 0), (8, .aload_n 1, 1, 0, 0), (9, .iload_n 2, 1, 0, 0), (10, .iconst (-1), 1, (-1), 0), (11, .iconst (-1), 1, (-1), 0), (12, .iload_n 3, 1, 0, 0), (13, .invokevirtual 138, 3, 0, 0), (16, .istore 4, 2, 0, 0), (18, .bipush (-2), 2, (-2), 0), (20, .istore 5, 2, 0, 0), (22, .iconst 0, 1, 0, 0), (23, .istore 6, 2, 0, 0), (25, .iload 6, 2, 0, 0), (27, .aload_n 1, 1, 0, 0), (28, .getfield 69, 3, 0, 0), (31, .iconst 3, 1, 3, 0), (32, .iaload, 1, 0, 0), (33, .if_icmp .ge 63, 3, 0, 96), (36, .iconst 0, 1, 0, 0), (37, .istore 7, 2, 0, 0), (39, .iload 7, 2, 0, 0), (41, .aload_n 1, 1, 0, 0), (42, .getfield 69, 3, 0, 0), (45, .iconst 2, 1, 2, 0), (46, .iaload, 1, 0, 0), (47, .if_icmp .ge 43, 3, 0, 90), (50, .aload_n 0, 1, 0, 0), (51, .aload_n 1, 1, 0, 0), (52, .iload_n 2, 1, 0, 0), (53, .iload 6, 2, 0, 0), (55, .iload 7, 2, 0, 0), (57, .iload_n 3, 1, 0, 0), (58, .invokevirtual 138, 3, 0, 0), (61, .istore 8, 2, 0, 0), (63, .iload 8, 2, 0, 0), (65, .iload 4, 2, 0, 0), (67, .if_icmp .le 17, 3, 0, 84), (70, .iload 8, 2, 0, 0), (72, .istore 4, 2, 0, 0), (74, .bipush 8, 2, 8, 0), (76, .iload 6, 2, 0, 0), (78, .imul, 1, 0, 0), (79, .iload 7, 2, 0, 0), (81, .iadd, 1, 0, 0), (82, .istore 5, 2, 0, 0), (84, .iinc 7 1, 3, 1, 0), (87, .goto (-48), 3, 0, 39), (90, .iinc 6 1, 3, 1, 0), (93, .goto (-68), 3, 0, 25), (96, .iload 5, 2, 0, 0), (98, .ireturn, 1, 0, 0)]
theorem tX10_bestOpener_ok : (tX10_bestOpener.all (q_okI cX10_bestOpener)) = true := by decide +kernel

abbrev fdX10_bestOpener : List (Nat ⊕ (Nat × Nat)) := [.inl 0, .inr (0, 1), .inr (0, 2), .inr (0, 3), .inr (0, 4), .inr (0, 5), .inr (0, 6), .inr (0, 0), .inr (7, 0), .inr (7, 1), .inr (7, 2), .inr (7, 3), .inr (7, 4), .inr (7, 5), .inl 1, .inr (14, 0), .inr (14, 5), .inr (16, 0), .inr (16, 1), .inr (16, 2), .inr (16, 3), .inr (16, 4), .inr (16, 5), .inr (16, 6), .inr (14, 6), .inr (24, 0), .inr (24, 1), .inr (24, 2), .inr (24, 3), .inr (24, 4), .inr (24, 5), .inr (24, 6)]
def spX10_bestOpener : q_P := fun a w K => ∃ (P : PT) (R : RT) (L : LT) (T : Nat → Int32) (m : Int32) (W : WT) (n nk no p x : Nat) (d : Int32), w = wyW P R L T m W ∧ a = [.ref 0, .ref 14, .int (nI p), .int d] ∧ pOk P ∧ rOk R ∧ L_n L ≤ 24 ∧ T 0 = nI n ∧ n ≤ 8 ∧ T 3 = nI nk ∧ nk ≤ 8 ∧ T 2 = nI no ∧ no ≤ 8 ∧ p < P.2.2.2.2.2.2 ∧ P.1 p = nI x ∧ ∀ V, K (.inl (some (.int (boF (fun k o => rchF L R (metB P L R p d) n x (nI k) (nI o) d) nk no (rchF L R (metB P L R p d) n x (-1) (-1) d))))) (wyW P R L T m V)
abbrev csX10_bestOpener : q_S := (4, 10, 4, 9, 0, 0, fdX10_bestOpener, spX10_bestOpener)
def EX10_bestOpener : q_E := (tX10_bestOpener, [(25, [0, 1, 2, 3, 4, 5, 6]), (39, [0, 1, 2, 3, 4, 5, 6, 7])], 9, flX10, [(117, csX10_meetPosts), (138, csX10_reachWith)], [], [], [], [], [], 4, 0, 0, (some .int), [], [], 0, 0)
theorem okX10_bestOpener (l : Launch) : q_Eok l RX10 cX10_bestOpener EX10_bestOpener := ⟨tX10_bestOpener_ok, flX10_ok, List.forall_mem_cons.mpr ⟨(coX10_117 l), List.forall_mem_cons.mpr ⟨(coX10_138 l), q_nil⟩⟩, q_nil, q_nil, q_nil, q_nil, q_nil, (fun h => absurd h (by decide))⟩
set_option maxRecDepth 100000 in
set_option maxHeartbeats 4000000 in
theorem ctX10_bestOpener (l : Launch) : q_CT l yX10_bestOpener (.code yX10_bestOpener cX10_bestOpener 9 (some .int)) 4 0 0 spX10_bestOpener := by
  refine q_ct_of EX10_bestOpener (by decide +kernel) (okX10_bestOpener l) rfl rfl rfl rfl rfl q_nil (fun ci h => by cases h) rfl ?_
  intro a w K h
  obtain ⟨P, R, L, T, m, W, n, nk, no, p, x, d, rfl, rfl, ho, hro, hL, hT, hn, hT3, hnk, hT2, hno, hp, hx, hK⟩ := h
  refine ⟨Nat.le_of_ble_eq_true rfl, fun C hC => hC _ _ _ _ _ _ ?_⟩
  refine ⟨P, R, L, T, m, W, p, d, rfl, rfl, ho, hro, hL, hp, fun g1 hg1 => ?_⟩
  refine ⟨P, R, L, T, m, wMet W g1, metB P L R p d, n, p, x, _, _, _, rfl, rfl, ho, hro, hL, hg1, hT, hn, hp, hx, fun g2 => ?_⟩
  generalize hf : (fun k o => rchF L R (metB P L R p d) n x (nI k) (nI o) d) = f at hK
  have hfa : ∀ k o, rchF L R (metB P L R p d) n x (nI k) (nI o) d = f k o := fun k o => by rw [← hf]
  have outer : ∀ k i s V, i + k = nk → metOk R V.2.2.2.2.1 (metB P L R p d) R.2.2.2.2.2.2.2 → boF f nk no (rchF L R (metB P L R p d) n x (-1) (-1) d) = (foldF (fun s k => foldF (boOne f k) 0 no s) i k s).2 → C 25 [(0, .ref 0), (1, .ref 14), (2, .int (nI p)), (3, .int d), (4, .int s.1), (5, .int s.2), (6, .int (nI i))] [] (wyW P R L T m V) 0 0 := by
    intro k
    induction k with
    | zero =>
      intro i s V hi hV he
      refine hC _ _ _ _ _ _ ?_
      refine ⟨vp_in_nI (n := 3) (by decide) (by decide), And.intro (fun c1 => ?_) (fun c1 => absurd (by show T 3 ≤ nI i; rw [hT3]; exact nI_le (by omega) (by omega)) c1)⟩
      have h9 := hK V
      rw [he] at h9; exact h9
    | succ k ih =>
      intro i s V hi hV he
      refine hC _ _ _ _ _ _ ?_
      refine ⟨vp_in_nI (n := 3) (by decide) (by decide), And.intro (fun c1 => absurd (show T 3 ≤ nI i from c1) (by rw [hT3]; exact nI_ge (by omega) (by omega))) (fun c1 => ?_)⟩
      have inner : ∀ k2 j s V, j + k2 = no → metOk R V.2.2.2.2.1 (metB P L R p d) R.2.2.2.2.2.2.2 → boF f nk no (rchF L R (metB P L R p d) n x (-1) (-1) d) = (foldF (fun s k => foldF (boOne f k) 0 no s) (i + 1) k (foldF (boOne f i) j k2 s)).2 → C 39 [(0, .ref 0), (1, .ref 14), (2, .int (nI p)), (3, .int d), (4, .int s.1), (5, .int s.2), (6, .int (nI i)), (7, .int (nI j))] [] (wyW P R L T m V) 0 0 := by
        intro k2
        induction k2 with
        | zero =>
          intro j s V hj hV he
          refine hC _ _ _ _ _ _ ?_
          refine ⟨vp_in_nI (n := 2) (by decide) (by decide), And.intro (fun c1 => ?_) (fun c1 => absurd (by show T 2 ≤ nI j; rw [hT2]; exact nI_le (by omega) (by omega)) c1)⟩
          have h9 := ih (i + 1) s V (by omega) hV he
          rw [← nI_1 i] at h9
          exact h9
        | succ k2 ih2 =>
          intro j s V hj hV he
          rw [foldF] at he
          refine hC _ _ _ _ _ _ ?_
          refine ⟨vp_in_nI (n := 2) (by decide) (by decide), And.intro (fun c1 => absurd (show T 2 ≤ nI j from c1) (by rw [hT2]; exact nI_ge (by omega) (by omega))) (fun c1 => ?_)⟩
          refine ⟨P, R, L, T, m, V, metB P L R p d, n, p, x, _, _, _, rfl, rfl, ho, hro, hL, hV, hT, hn, hp, hx, fun g => ?_⟩
          rw [hfa]
          refine And.intro (fun c2 => ?_) (fun c2 => ?_)
          · have c2 : f i j ≤ s.1 := c2
            rw [boOne, if_neg (Int32.not_lt.mpr c2)] at he
            have h9 := ih2 (j + 1) s (wOpn V g) (by omega) hV he
            rw [← nI_1 j] at h9
            exact h9
          · have c2 : ¬ f i j ≤ s.1 := c2
            rw [boOne, if_pos (Int32.not_le.mp c2)] at he
            have h9 := ih2 (j + 1) _ (wOpn V g) (by omega) hV he
            rw [← nI_1 j] at h9
            exact h9
      exact inner no 0 s V (by omega) hV he
  exact outer nk 0 (_, -2) _ (by omega) hg1 rfl
