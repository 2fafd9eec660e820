/-- kind, office, coin, fitting, roadOpen, count, bought -/
abbrev ST : Type := (Nat → Int32) × (Nat → Int32) × (Nat → Int32) × (Nat → Int32) × (Nat → Int32) × Nat × Int32
def loadsW (o : Nat) (S : ST) : List q_C := [.inr (5, [.ref (o + 1), .ref (o + 2), .ref (o + 3), .ref (o + 4), .ref (o + 5), .int (nI S.2.2.2.2.2.1), .int S.2.2.2.2.2.2]), .inl (1, 9, .inl S.1), .inl (1, 9, .inl S.2.1), .inl (1, 9, .inl S.2.2.1), .inl (1, 48, .inl S.2.2.2.1), .inl (3, 16, .inl S.2.2.2.2.1)]

def tX5_clear : List q_I := [(0, .aload_n 0, 1, 0, 0), (1, .iconst 0, 1, 0, 0), (2, .putfield 34, 3, 0, 0), (5, .aload_n 0, 1, 0, 0), (6, .iconst (-1), 1, (-1), 0), (7, .putfield 30, 3, 0, 0), (10, .return_, 1, 0, 0)]
theorem tX5_clear_ok : (tX5_clear.all (q_okI cX5_clear)) = true := by decide +kernel

abbrev fdX5_clear : List (Nat ⊕ (Nat × Nat)) := [.inl 0, .inr (0, 0), .inr (0, 1), .inr (0, 2), .inr (0, 3), .inr (0, 4)]
def spX5_clear : q_P := fun a w K => ∃ (S : ST), w = loadsW 0 S ∧ a = [.ref 0] ∧ K (.inl none) (loadsW 0 (S.1, S.2.1, S.2.2.1, S.2.2.2.1, S.2.2.2.2.1, 0, -1))
abbrev csX5_clear : q_S := (1, 5, 0, 1, 0, 0, fdX5_clear, spX5_clear)
def EX5_clear : q_E := (tX5_clear, [], 1, flX5, [], [], [], [], [], [], 0, 0, 0, none, [], [], 0, 0)
theorem okX5_clear (l : Launch) : q_Eok l RX5 cX5_clear EX5_clear := ⟨tX5_clear_ok, flX5_ok, q_nil, q_nil, q_nil, q_nil, q_nil, q_nil, (fun h => absurd h (by decide))⟩
set_option maxRecDepth 100000 in
set_option maxHeartbeats 4000000 in
theorem ctX5_clear (l : Launch) : q_CT l yX5_clear (.code yX5_clear cX5_clear 1 none) 0 0 0 spX5_clear := by
  refine q_ct_of EX5_clear (by decide +kernel) (okX5_clear l) rfl rfl rfl rfl rfl q_nil (fun ci h => by cases h) rfl ?_
  intro a w K h
  obtain ⟨S, rfl, rfl, hK⟩ := h
  refine ⟨Nat.le_of_ble_eq_true rfl, fun C hC => hC _ _ _ _ _ _ ?_⟩
  exact hK
def loadAdd (S : ST) (k o c : Int32) : ST := (upd S.1 S.2.2.2.2.2.1 k, upd S.2.1 S.2.2.2.2.2.1 o, upd S.2.2.1 S.2.2.2.2.2.1 c, S.2.2.2.1, S.2.2.2.2.1, S.2.2.2.2.2.1 + 1, S.2.2.2.2.2.2)
def tX5_add : List q_I := [(0, .aload_n 0, 1, 0, 0), (1, .getfield 11, 3, 0, 0), (4, .aload_n 0, 1, 0, 0), (5, .getfield 34, 3, 0, 0), (8, .iload_n 1, 1, 0, 0), (9, .iastore, 1, 0, 0), (10, .aload_n 0, 1, 0, 0), (11, .getfield 15, 3, 0, 0), (14, .aload_n 0, 1, 0, 0), (15, .getfield 34, 3, 0, 0), (18, .iload_n 2, 1, 0, 0), (19, .iastore, 1, 0, 0), (20, .aload_n 0, 1, 0, 0), (21, .getfield 18, 3, 0, 0), (24, .aload_n 0, 1, 0, 0), (25, .getfield 34, 3, 0, 0), (28, .iload_n 3, 1, 0, 0), (29, .iastore, 1, 0, 0), (30, .aload_n 0, 1, 0, 0), (31, .dup, 1, 0, 0), (32, .getfield 34, 3, 0, 0), (35, .iconst 1, 1, 1, 0), (36, .iadd, 1, 0, 0), (37, .putfield 34, 3, 0, 0), (40, .aload_n 0, 1, 0, 0), (41, .getfield 34, 3, 0, 0), (44, .iconst 1, 1, 1, 0), (45, .isub, 1, 0, 0), (46, .ireturn, 1, 0, 0)]
theorem tX5_add_ok : (tX5_add.all (q_okI cX5_add)) = true := by decide +kernel

abbrev fdX5_add : List (Nat ⊕ (Nat × Nat)) := [.inl 0, .inr (0, 0), .inr (0, 1), .inr (0, 2), .inr (0, 3), .inr (0, 4)]
def spX5_add : q_P := fun a w K => ∃ (S : ST) (k o c : Int32), w = loadsW 0 S ∧ a = [.ref 0, .int k, .int o, .int c] ∧ S.2.2.2.2.2.1 < 9 ∧ K (.inl (some (.int (nI S.2.2.2.2.2.1)))) (loadsW 0 (loadAdd S k o c))
abbrev csX5_add : q_S := (4, 5, 0, 4, 0, 0, fdX5_add, spX5_add)
def EX5_add : q_E := (tX5_add, [], 4, flX5, [], [], [], [], [], [], 0, 0, 0, (some .int), [], [], 0, 0)
theorem okX5_add (l : Launch) : q_Eok l RX5 cX5_add EX5_add := ⟨tX5_add_ok, flX5_ok, q_nil, q_nil, q_nil, q_nil, q_nil, q_nil, (fun h => absurd h (by decide))⟩
set_option maxRecDepth 100000 in
set_option maxHeartbeats 4000000 in
theorem ctX5_add (l : Launch) : q_CT l yX5_add (.code yX5_add cX5_add 4 (some .int)) 0 0 0 spX5_add := by
  refine q_ct_of EX5_add (by decide +kernel) (okX5_add l) rfl rfl rfl rfl rfl q_nil (fun ci h => by cases h) rfl ?_
  intro a w K h
  obtain ⟨S, k, o, c, rfl, rfl, hn, hK⟩ := h
  refine ⟨Nat.le_of_ble_eq_true rfl, fun C hC => hC _ _ _ _ _ _ ?_⟩
  have hv : vp_in (nI S.2.2.2.2.2.1) 9 := vp_in_nI hn (by omega)
  have hc : (nI S.2.2.2.2.2.1).toNatClampNeg = S.2.2.2.2.2.1 := nI_clamp (by omega)
  refine ⟨hv, hv, hv, ?_⟩
  show K (.inl (some (.int _))) _
  simp only [hc, nI_1, nI_pred]
  exact hK
def ldW (S : ST) (R : RT) (L : LT) (T : Nat → Int32) (m : Int32) : List q_C := loadsW 0 S ++ ([.inr (0, [.ref 7, tk 6 1, tk 6 2, tk 6 3, .int m, .ref 8, .ref 16, tk 6 7]), .inl (1, 4, .inl T)] ++ (roadsW 8 R ++ lawsW 16 L))
def sFit (S : ST) (g : Nat → Int32) : ST := (S.1, S.2.1, S.2.2.1, g, S.2.2.2.2.1, S.2.2.2.2.2.1, S.2.2.2.2.2.2)
def sOpn (S : ST) (g : Nat → Int32) : ST := (S.1, S.2.1, S.2.2.1, S.2.2.2.1, g, S.2.2.2.2.2.1, S.2.2.2.2.2.2)
def sBgt (S : ST) (x : Int32) : ST := (S.1, S.2.1, S.2.2.1, S.2.2.2.1, S.2.2.2.2.1, S.2.2.2.2.2.1, x)
def fitF (S : ST) (L : LT) (R : RT) (d : Int32) (k : Nat) : Nat → Int32
  | 0 => 0
  | s + 1 => if S.1 s = R.2.2.2.2.2.1 k ∧ accOn L d (R.2.2.2.2.2.2.1 k) (S.1 s) (S.2.1 s) = true then fitF S L R d k s ||| (1 : Int32) <<< (nI s &&& 31) else fitF S L R d k s
theorem fitF_g (S : ST) (g : Nat → Int32) (L : LT) (R : RT) (d : Int32) (k : Nat) : ∀ n, fitF (sFit S g) L R d k n = fitF S L R d k n
  | 0 => rfl
  | n + 1 => by rw [fitF, fitF, fitF_g S g L R d k n]; rfl
def fitOk (R : RT) (g : Nat → Int32) (f : Nat → Int32) (j : Nat) : Prop := ∀ r i, r < j → i < rpN R r → g (r * 3 + i) = f (r * 3 + i)
def tX5_findFitting : List q_I := [(0, .aload_n 1, 1, 0, 0), (1, .getfield 55, 3, 0, 0), (4, .astore_n 3, 1, 0, 0), (5, .iconst 0, 1, 0, 0), (6, .istore 4, 2, 0, 0), (8, .iload 4, 2, 0, 0), (10, .aload_n 3, 1, 0, 0), (11, .getfield 61, 3, 0, 0), (14, .if_icmp .ge 128, 3, 0, 142), (17, .iconst 0, 1, 0, 0), (18, .istore 5, 2, 0, 0), (20, .iload 5, 2, 0, 0), (22, .aload_n 3, 1, 0, 0), (23, .getfield 62, 3, 0, 0), (26, .iload 4, 2, 0, 0), (28, .iaload, 1, 0, 0), (29, .if_icmp .ge 107, 3, 0, 136), (32, .iload 4, 2, 0, 0), (34, .iconst 3, 1, 3, 0), (35, .imul, 1, 0, 0), (36, .iload 5, 2, 0, 0), (38, .iadd, 1, 0, 0), (39, .istore 6, 2, 0, 0), (41, .aload_n 0, 1, 0, 0), (42, .getfield 23, 3, 0, 0), (45, .iload 6, 2, 0, 0), (47, .iconst 0, 1, 0, 0), (48, .iastore, 1, 0, 0), (49, .iconst 0, 1, 0, 0), (50, .istore 7, 2, 0, 0), (52, .iload 7, 2, 0, 0), (54, .aload_n 0, 1, 0, 0), (55, .getfield 34, 3, 0, 0), (58, .if_icmp .ge 72, 3, 0, 130), (61, .aload_n 0, 1, 0, 0), (62, .getfield 11, 3, 0, 0), (65, .iload 7, 2, 0, 0), (67, .iaload, 1, 0, 0), (68, .aload_n 3, 1, 0, 0), (69, .getfield 65, 3, 0, 0), (72, .iload 6, 2, 0, 0), (74, .iaload, 1, 0, 0), (75, .if_icmp .ne 49, 3, 0, 124), (78, .aload_n 1, 1, 0, 0), (79, .getfield 68, 3, 0, 0), (82, .iload_n 2, 1, 0, 0), (83, .aload_n 3, 1, 0, 0), (84, .getfield 72, 3, 0, 0), (87, .iload 6, 2, 0, 0), (89, .iaload, 1, 0, 0), (90, .aload_n 0, 1, 0, 0), (91, .getfield 11, 3, 0, 0), (94, .iload 7, 2, 0, 0), (96, .iaload, 1, 0, 0), (97, .aload_n 0, 1, 0, 0), (98, .getfield 15, 3, 0, 0), (101, .iload 7, 2, 0, 0), (103, .iaload, 1, 0, 0), (104, .invokevirtual 75, 3, 0, 0), (107, .ifCond .eq 17, 3, 0, 124), (110, .aload_n 0, 1, 0, 0), (111, .getfield 23, 3, 0, 0), (114, .iload 6, 2, 0, 0), (116, .dup2, 1, 0, 0), (117, .iaload, 1, 0, 0), (118, .iconst 1, 1, 1, 0), (119, .iload 7, 2, 0, 0), (121, .ishl, 1, 0, 0), (122, .ior, 1, 0, 0), (123, .iastore, 1, 0, 0), (124, .iinc 7 1, 3, 1, 0), (127, .goto (-75), 3, 0, 52), (130, .iinc 5 1, 3, 1, 0), (133, .goto (-113), 3, 0, 20), (136, .iinc 4 1, 3, 1, 0), (139, .goto (-131), 3, 0, 8), (142, .return_, 1, 0, 0)]
theorem tX5_findFitting_ok : (tX5_findFitting.all (q_okI cX5_findFitting)) = true := by decide +kernel

abbrev fdX5_findFitting : List (Nat ⊕ (Nat × Nat)) := [.inl 0, .inr (0, 0), .inr (0, 1), .inr (0, 2), .inr (0, 3), .inr (0, 4), .inl 1, .inr (6, 0), .inr (6, 5), .inr (8, 0), .inr (8, 1), .inr (8, 2), .inr (8, 3), .inr (8, 4), .inr (8, 5), .inr (8, 6), .inr (6, 6), .inr (16, 0), .inr (16, 1), .inr (16, 2), .inr (16, 3), .inr (16, 4), .inr (16, 5), .inr (16, 6)]
def spX5_findFitting : q_P := fun a w K => ∃ (S : ST) (R : RT) (L : LT) (T : Nat → Int32) (m d : Int32), w = ldW S R L T m ∧ a = [.ref 0, .ref 6, .int d] ∧ rOk R ∧ L_n L ≤ 24 ∧ S.2.2.2.2.2.1 ≤ 9 ∧ ∀ g, fitOk R g (fun k => fitF S L R d k S.2.2.2.2.2.1) R.2.2.2.2.2.2.2 → K (.inl none) (ldW (sFit S g) R L T m)
abbrev csX5_findFitting : q_S := (3, 5, 2, 8, 0, 0, fdX5_findFitting, spX5_findFitting)
theorem coX5_75 (l : Launch) : q_CO l RX5 75 csX3_acceptOn := ⟨yX3_acceptOn, cX3_acceptOn, (some .boolean), 4, ⟨by decide +kernel, by decide +kernel, by decide +kernel⟩, q_G_i 4 (by decide +kernel) rfl, Or.inl ⟨by decide, rfl, rfl, q_G_i 991 (by decide +kernel) rfl, q_G_i 837 (by decide +kernel) rfl, q_G_i 838 (by decide +kernel) rfl, Or.inl ⟨q_G_i 839 (by decide +kernel) rfl, ctX3_acceptOn l⟩⟩⟩
def EX5_findFitting : q_E := (tX5_findFitting, [(8, [0, 1, 2, 3, 4]), (20, [0, 1, 2, 3, 4, 5]), (52, [0, 1, 2, 3, 4, 5, 6, 7])], 8, flX5, [(75, csX3_acceptOn)], [], [], [], [], [], 2, 0, 0, none, [], [], 0, 0)
theorem okX5_findFitting (l : Launch) : q_Eok l RX5 cX5_findFitting EX5_findFitting := ⟨tX5_findFitting_ok, flX5_ok, List.forall_mem_cons.mpr ⟨(coX5_75 l), q_nil⟩, q_nil, q_nil, q_nil, q_nil, q_nil, (fun h => absurd h (by decide))⟩
set_option maxRecDepth 100000 in
set_option maxHeartbeats 4000000 in
theorem ctX5_findFitting (l : Launch) : q_CT l yX5_findFitting (.code yX5_findFitting cX5_findFitting 8 none) 2 0 0 spX5_findFitting := by
  refine q_ct_of EX5_findFitting (by decide +kernel) (okX5_findFitting l) rfl rfl rfl rfl rfl q_nil (fun ci h => by cases h) rfl ?_
  intro a w K h
  obtain ⟨S, R, L, T, m, d, rfl, rfl, hro, hL, hS, hK⟩ := h
  have hrn := hro.1
  refine ⟨Nat.le_of_ble_eq_true rfl, fun C hC => ?_⟩
  have outer : ∀ k j g, j + k = R.2.2.2.2.2.2.2 → fitOk R g (fun k => fitF S L R d k S.2.2.2.2.2.1) j → C 8 [(0, .ref 0), (1, .ref 6), (2, .int d), (3, .ref 8), (4, .int (nI j))] [] (ldW (sFit S g) R L T m) 0 0 := by
    intro k
    induction k with
    | zero =>
      intro j g hj hg
      have hj : j = R.2.2.2.2.2.2.2 := by omega
      subst hj
      refine hC _ _ _ _ _ _ ?_
      exact And.intro (fun c1 => hK g hg) (fun c1 => absurd (Int32.le_refl _) c1)
    | succ k ih =>
      intro j g hj hg
      obtain ⟨h1, h2, h3, h4, h5⟩ := rOk_ix hro (show j < R.2.2.2.2.2.2.2 by omega)
      refine hC _ _ _ _ _ _ ?_
      refine And.intro (fun c1 => absurd c1 (nI_ge (by omega) (by omega))) (fun c1 => ?_)
      have mid : ∀ k i g, i + k = rpN R j → fitOk R g (fun k => fitF S L R d k S.2.2.2.2.2.1) j → (∀ q, q < i → g (j * 3 + q) = fitF S L R d (j * 3 + q) S.2.2.2.2.2.1) → C 20 [(0, .ref 0), (1, .ref 6), (2, .int d), (3, .ref 8), (4, .int (nI j)), (5, .int (nI i))] [] (ldW (sFit S g) R L T m) 0 0 := by
        intro k2
        induction k2 with
        | zero =>
          intro i g hi hg hq
          refine hC _ _ _ _ _ _ ?_
          refine ⟨h1, And.intro (fun c2 => ?_) (fun c2 => absurd (by show R.2.2.2.2.1 (nI j).toNatClampNeg ≤ nI i; rw [h2, h3]; exact nI_le (by omega) (by omega)) c2)⟩
          have h9 := ih (j + 1) g (by omega) (fun r q hr hq2 => by
            by_cases e : r = j
            · subst e; exact hq q (by omega)
            · exact hg r q (by omega) hq2)
          rw [← nI_1] at h9
          exact h9
        | succ k2 ih2 =>
          intro i g hi hg hq
          have e2 : nI j * 3 + nI i = nI (j * 3 + i) := by rw [nI_mul3, nI_add]
          have hv2 : vp_in (nI j * 3 + nI i) 48 := by rw [e2]; exact vp_in_nI (by omega) (by omega)
          have hc2 : (nI j * 3 + nI i).toNatClampNeg = j * 3 + i := by rw [e2]; exact nI_clamp (by omega)
          refine hC _ _ _ _ _ _ ?_
          refine ⟨h1, And.intro (fun c2 => absurd (show R.2.2.2.2.1 (nI j).toNatClampNeg ≤ nI i from c2) (by rw [h2, h3]; exact nI_ge (by omega) (by omega))) (fun c2 => ⟨hv2, ?_⟩)⟩
          have inner : ∀ k3 s g, s + k3 = S.2.2.2.2.2.1 → fitOk R g (fun k => fitF S L R d k S.2.2.2.2.2.1) j → (∀ q, q < i → g (j * 3 + q) = fitF S L R d (j * 3 + q) S.2.2.2.2.2.1) → g (j * 3 + i) = fitF S L R d (j * 3 + i) s → C 52 [(0, .ref 0), (1, .ref 6), (2, .int d), (3, .ref 8), (4, .int (nI j)), (5, .int (nI i)), (6, .int (nI j * 3 + nI i)), (7, .int (nI s))] [] (ldW (sFit S g) R L T m) 0 0 := by
            intro k3
            induction k3 with
            | zero =>
              intro s g hs hg hq he
              have hs : s = S.2.2.2.2.2.1 := by omega
              subst hs
              refine hC _ _ _ _ _ _ ?_
              refine And.intro (fun c3 => ?_) (fun c3 => absurd (Int32.le_refl _) c3)
              have h9 := ih2 (i + 1) g (by omega) hg (fun q hq2 => by
                by_cases e : q = i
                · subst e; exact he
                · exact hq q (by omega))
              rw [← nI_1 i] at h9
              exact h9
            | succ k3 ih3 =>
              intro s g hs hg hq he
              have hvs : vp_in (nI s) 9 := vp_in_nI (by omega) (by omega)
              have hcs : (nI s).toNatClampNeg = s := nI_clamp (by omega)
              have no : ¬ (S.1 s = R.2.2.2.2.2.1 (j * 3 + i) ∧ accOn L d (R.2.2.2.2.2.2.1 (j * 3 + i)) (S.1 s) (S.2.1 s) = true) → C 52 [(0, .ref 0), (1, .ref 6), (2, .int d), (3, .ref 8), (4, .int (nI j)), (5, .int (nI i)), (6, .int (nI j * 3 + nI i)), (7, .int (nI s + 1))] [] (ldW (sFit S g) R L T m) 0 0 := by
                intro hf
                have h9 := ih3 (s + 1) g (by omega) hg hq (by rw [fitF, if_neg hf]; exact he)
                rw [← nI_1 s] at h9
                exact h9
              refine hC _ _ _ _ _ _ ?_
              refine And.intro (fun c3 => absurd c3 (nI_ge (b := S.2.2.2.2.2.1) (by omega) (by omega))) (fun c3 => ⟨hvs, hv2, And.intro (fun c4 => no ?_) (fun c4 => ⟨hv2, hvs, hvs, L, _, _, _, _, rfl, rfl, hL, And.intro (fun c5 => no ?_) (fun c5 => ⟨hv2, hv2, ?_⟩)⟩)⟩)
              · have c4 : ¬ S.1 (nI s).toNatClampNeg = R.2.2.2.2.2.1 (nI j * 3 + nI i).toNatClampNeg := c4
                rw [hcs, hc2] at c4
                exact fun z => c4 z.1
              · have c5 : bI (accOn L d (R.2.2.2.2.2.2.1 (nI j * 3 + nI i).toNatClampNeg) (S.1 (nI s).toNatClampNeg) (S.2.1 (nI s).toNatClampNeg)) = 0 := c5
                rw [hcs, hc2] at c5
                exact fun z => by rw [bI_0.mp c5] at z; exact absurd z.2 (by decide)
              · have c4 : S.1 (nI s).toNatClampNeg = R.2.2.2.2.2.1 (nI j * 3 + nI i).toNatClampNeg := c4
                have c5 : ¬ bI (accOn L d (R.2.2.2.2.2.2.1 (nI j * 3 + nI i).toNatClampNeg) (S.1 (nI s).toNatClampNeg) (S.2.1 (nI s).toNatClampNeg)) = 0 := c5
                rw [hcs, hc2] at c4 c5
                have h9 := ih3 (s + 1) (upd g (j * 3 + i) (g (j * 3 + i) ||| (1 : Int32) <<< (nI s &&& 31))) (by omega) (fun r q hr hq2 => by
                  have := (rOk_ix hro (show r < R.2.2.2.2.2.2.2 by omega)).2.2.2.1
                  rw [pk_un (by omega)]; exact hg r q hr hq2) (fun q hq2 => by rw [pk_un (by omega)]; exact hq q hq2) (by rw [fitF, if_pos ⟨c4, bI_n0.mp c5⟩, ← he]; exact pk_us)
                rw [← nI_1 s, ← hc2] at h9
                exact h9
          have h9 := inner S.2.2.2.2.2.1 0 (upd g (j * 3 + i) 0) (by omega) (fun r q hr hq2 => by
                  have := (rOk_ix hro (show r < R.2.2.2.2.2.2.2 by omega)).2.2.2.1
                  rw [pk_un (by omega)]; exact hg r q hr hq2) (fun q hq2 => by rw [pk_un (by omega)]; exact hq q hq2) pk_us
          rw [← hc2] at h9
          exact h9
      exact mid (rpN R j) 0 g (by omega) hg (fun q hq => absurd hq (Nat.not_lt_zero q))
  exact hC _ _ _ _ _ _ (outer R.2.2.2.2.2.2.2 0 S.2.2.2.1 (by omega) (fun r q hr => absurd hr (Nat.not_lt_zero r)))
def cstF (coin : Nat → Int32) (set : Int32) : Nat → Int32
  | 0 => 0
  | s + 1 => if (set >>> (nI s &&& 31)) &&& 1 = 0 then cstF coin set s else cstF coin set s + coin s
def tX5_costOf : List q_I := [(0, .iconst 0, 1, 0, 0), (1, .istore_n 2, 1, 0, 0), (2, .iconst 0, 1, 0, 0), (3, .istore_n 3, 1, 0, 0), (4, .iload_n 3, 1, 0, 0), (5, .aload_n 0, 1, 0, 0), (6, .getfield 34, 3, 0, 0), (9, .if_icmp .ge 26, 3, 0, 35), (12, .iload_n 1, 1, 0, 0), (13, .iload_n 3, 1, 0, 0), (14, .ishr, 1, 0, 0), (15, .iconst 1, 1, 1, 0), (16, .iand, 1, 0, 0), (17, .ifCond .eq 12, 3, 0, 29), (20, .iload_n 2, 1, 0, 0), (21, .aload_n 0, 1, 0, 0), (22, .getfield 18, 3, 0, 0), (25, .iload_n 3, 1, 0, 0), (26, .iaload, 1, 0, 0), (27, .iadd, 1, 0, 0), (28, .istore_n 2, 1, 0, 0), (29, .iinc 3 1, 3, 1, 0), (32, .goto (-28), 3, 0, 4), (35, .iload_n 2, 1, 0, 0), (36, .ireturn, 1, 0, 0)]
theorem tX5_costOf_ok : (tX5_costOf.all (q_okI cX5_costOf)) = true := by decide +kernel

abbrev fdX5_costOf : List (Nat ⊕ (Nat × Nat)) := [.inl 0, .inr (0, 0), .inr (0, 1), .inr (0, 2), .inr (0, 3), .inr (0, 4)]
def spX5_costOf : q_P := fun a w K => ∃ (S : ST) (x : Int32), w = loadsW 0 S ∧ a = [.ref 0, .int x] ∧ S.2.2.2.2.2.1 ≤ 9 ∧ K (.inl (some (.int (cstF S.2.2.1 x S.2.2.2.2.2.1)))) (loadsW 0 S)
abbrev csX5_costOf : q_S := (2, 5, 0, 4, 0, 0, fdX5_costOf, spX5_costOf)
def EX5_costOf : q_E := (tX5_costOf, [(4, [0, 1, 2, 3])], 4, flX5, [], [], [], [], [], [], 0, 0, 0, (some .int), [], [], 0, 0)
theorem okX5_costOf (l : Launch) : q_Eok l RX5 cX5_costOf EX5_costOf := ⟨tX5_costOf_ok, flX5_ok, q_nil, q_nil, q_nil, q_nil, q_nil, q_nil, (fun h => absurd h (by decide))⟩
set_option maxRecDepth 100000 in
set_option maxHeartbeats 4000000 in
theorem ctX5_costOf (l : Launch) : q_CT l yX5_costOf (.code yX5_costOf cX5_costOf 4 (some .int)) 0 0 0 spX5_costOf := by
  refine q_ct_of EX5_costOf (by decide +kernel) (okX5_costOf l) rfl rfl rfl rfl rfl q_nil (fun ci h => by cases h) rfl ?_
  intro a w K h
  obtain ⟨S, x, rfl, rfl, hS, hK⟩ := h
  refine ⟨Nat.le_of_ble_eq_true rfl, fun C hC => ?_⟩
  have loop : ∀ k i, i + k = S.2.2.2.2.2.1 → C 4 [(0, .ref 0), (1, .int x), (2, .int (cstF S.2.2.1 x i)), (3, .int (nI i))] [] (loadsW 0 S) 0 0 := by
    intro k
    induction k with
    | zero =>
      intro i hi
      have hi : i = S.2.2.2.2.2.1 := by omega
      subst hi
      refine hC _ _ _ _ _ _ ?_
      exact And.intro (fun c1 => hK) (fun c1 => absurd (Int32.le_refl _) c1)
    | succ k ih =>
      intro i hi
      have hv : vp_in (nI i) 9 := vp_in_nI (by omega) (by omega)
      have hc : (nI i).toNatClampNeg = i := nI_clamp (by omega)
      have h9 := ih (i + 1) (by omega)
      rw [← nI_1] at h9
      refine hC _ _ _ _ _ _ ?_
      refine And.intro (fun c1 => absurd c1 (nI_ge (by omega) (by omega))) (fun c1 => And.intro (fun c2 => ?_) (fun c2 => ⟨hv, ?_⟩))
      · rw [cstF, if_pos c2] at h9; exact h9
      · rw [cstF, if_neg c2] at h9
        have e1 : S.2.2.1 i = S.2.2.1 (nI i).toNatClampNeg := by rw [hc]
        rw [e1] at h9
        exact h9
  exact hC _ _ _ _ _ _ (loop S.2.2.2.2.2.1 0 (by omega))
def carO (R : RT) (f : Nat → Int32) (set : Int32) (r : Nat) : Bool := allF (fun k => decide (¬ f k &&& set = 0)) (r * 3) (rpN R r)
def carB (R : RT) (f : Nat → Int32) (n : Nat) (set x y : Int32) : Bool := decide (¬ (sprF R (carO R f set) n x >>> (y &&& 31)) &&& 1 = 0)
def tX5_carries : List q_I := [(0, .aload_n 1, 1, 0, 0), (1, .getfield 55, 3, 0, 0), (4, .astore 5, 2, 0, 0), (6, .iconst 0, 1, 0, 0), (7, .istore 6, 2, 0, 0), (9, .iload 6, 2, 0, 0), (11, .aload 5, 2, 0, 0), (13, .getfield 61, 3, 0, 0), (16, .if_icmp .ge 64, 3, 0, 80), (19, .aload_n 0, 1, 0, 0), (20, .getfield 26, 3, 0, 0), (23, .iload 6, 2, 0, 0), (25, .iconst 1, 1, 1, 0), (26, .bastore, 1, 0, 0), (27, .iconst 0, 1, 0, 0), (28, .istore 7, 2, 0, 0), (30, .iload 7, 2, 0, 0), (32, .aload 5, 2, 0, 0), (34, .getfield 62, 3, 0, 0), (37, .iload 6, 2, 0, 0), (39, .iaload, 1, 0, 0), (40, .if_icmp .ge 34, 3, 0, 74), (43, .aload_n 0, 1, 0, 0), (44, .getfield 23, 3, 0, 0), (47, .iload 6, 2, 0, 0), (49, .iconst 3, 1, 3, 0), (50, .imul, 1, 0, 0), (51, .iload 7, 2, 0, 0), (53, .iadd, 1, 0, 0), (54, .iaload, 1, 0, 0), (55, .iload_n 2, 1, 0, 0), (56, .iand, 1, 0, 0), (57, .ifCond .ne 11, 3, 0, 68), (60, .aload_n 0, 1, 0, 0), (61, .getfield 26, 3, 0, 0), (64, .iload 6, 2, 0, 0), (66, .iconst 0, 1, 0, 0), (67, .bastore, 1, 0, 0), (68, .iinc 7 1, 3, 1, 0), (71, .goto (-41), 3, 0, 30), (74, .iinc 6 1, 3, 1, 0), (77, .goto (-68), 3, 0, 9), (80, .aload_n 1, 1, 0, 0), (81, .aload_n 0, 1, 0, 0), (82, .getfield 26, 3, 0, 0), (85, .iload_n 3, 1, 0, 0), (86, .invokestatic 81, 3, 0, 0), (89, .iload 4, 2, 0, 0), (91, .ishr, 1, 0, 0), (92, .iconst 1, 1, 1, 0), (93, .iand, 1, 0, 0), (94, .ifCond .eq 7, 3, 0, 101), (97, .iconst 1, 1, 1, 0), (98, .goto 4, 3, 0, 102), (101, .iconst 0, 1, 0, 0), (102, .ireturn, 1, 0, 0)]
theorem tX5_carries_ok : (tX5_carries.all (q_okI cX5_carries)) = true := by decide +kernel

abbrev fdX5_carries : List (Nat ⊕ (Nat × Nat)) := [.inl 0, .inr (0, 0), .inr (0, 1), .inr (0, 2), .inr (0, 3), .inr (0, 4), .inl 1, .inr (6, 0), .inr (6, 5), .inr (8, 0), .inr (8, 1), .inr (8, 2), .inr (8, 3), .inr (8, 4), .inr (8, 5), .inr (8, 6), .inr (6, 6), .inr (16, 0), .inr (16, 1), .inr (16, 2), .inr (16, 3), .inr (16, 4), .inr (16, 5), .inr (16, 6)]
def spX5_carries : q_P := fun a w K => ∃ (S : ST) (R : RT) (L : LT) (T : Nat → Int32) (m : Int32) (f : Nat → Int32) (n : Nat) (s x y : Int32), w = ldW S R L T m ∧ a = [.ref 0, .ref 6, .int s, .int x, .int y] ∧ rOk R ∧ T 0 = nI n ∧ n ≤ 8 ∧ fitOk R S.2.2.2.1 f R.2.2.2.2.2.2.2 ∧ ∀ g, K (.inl (some (.int (bI (carB R f n s x y))))) (ldW (sOpn S g) R L T m)
abbrev csX5_carries : q_S := (5, 5, 1, 8, 0, 0, fdX5_carries, spX5_carries)
theorem coX5_81 (l : Launch) : q_CO l RX5 81 csX10_spread := ⟨yX10_spread, cX10_spread, (some .int), 3, ⟨by decide +kernel, by decide +kernel, by decide +kernel⟩, q_G_i 12 (by decide +kernel) rfl, Or.inr (Or.inr (Or.inr ⟨rfl, rfl, q_G_i 1002 (by decide +kernel) rfl, q_G_i 955 (by decide +kernel) rfl, Or.inl ⟨q_G_i 956 (by decide +kernel) rfl, ctX10_spread l⟩⟩))⟩
def EX5_carries : q_E := (tX5_carries, [(9, [0, 1, 2, 3, 4, 5, 6]), (30, [0, 1, 2, 3, 4, 5, 6, 7])], 8, flX5, [(81, csX10_spread)], [], [], [], [], [], 1, 0, 0, (some .boolean), [], [], 0, 0)
theorem okX5_carries (l : Launch) : q_Eok l RX5 cX5_carries EX5_carries := ⟨tX5_carries_ok, flX5_ok, List.forall_mem_cons.mpr ⟨(coX5_81 l), q_nil⟩, q_nil, q_nil, q_nil, q_nil, q_nil, (fun h => absurd h (by decide))⟩
set_option maxRecDepth 100000 in
set_option maxHeartbeats 4000000 in
theorem ctX5_carries (l : Launch) : q_CT l yX5_carries (.code yX5_carries cX5_carries 8 (some .boolean)) 1 0 0 spX5_carries := by
  refine q_ct_of EX5_carries (by decide +kernel) (okX5_carries l) rfl rfl rfl rfl rfl q_nil (fun ci h => by cases h) rfl ?_
  intro a w K h
  obtain ⟨S, R, L, T, m, f, n, s, x, y, rfl, rfl, hro, hT, hn, hf, hK⟩ := h
  have hrn := hro.1
  refine ⟨Nat.le_of_ble_eq_true rfl, fun C hC => ?_⟩
  have outer : ∀ k j g, j + k = R.2.2.2.2.2.2.2 → (∀ r, r < j → g r = bI (carO R f s r)) → C 9 [(0, .ref 0), (1, .ref 6), (2, .int s), (3, .int x), (4, .int y), (5, .ref 8), (6, .int (nI j))] [] (ldW (sOpn S g) R L T m) 0 0 := by
    intro k
    induction k with
    | zero =>
      intro j g hj hg
      have hj : j = R.2.2.2.2.2.2.2 := by omega
      subst hj
      refine hC _ _ _ _ _ _ ?_
      refine And.intro (fun c1 => ?_) (fun c1 => absurd (Int32.le_refl _) c1)
      refine ⟨R, T, g, carO R f s, n, x, _, _, _, _, _, _, rfl, rfl, hrn, hT, hn, hg, And.intro (fun c2 => ⟨rfl, ?_⟩) (fun c2 => ⟨rfl, ?_⟩)⟩
      · have h9 := hK g
        rw [carB, bI_f (fun z => z c2)] at h9; exact h9
      · have h9 := hK g
        rw [carB, bI_t c2] at h9; exact h9
    | succ k ih =>
      intro j g hj hg
      have hrj : j < R.2.2.2.2.2.2.2 := by omega
      obtain ⟨h1, h2, h3, h4, h5⟩ := rOk_ix hro hrj
      refine hC _ _ _ _ _ _ ?_
      refine And.intro (fun c1 => absurd c1 (nI_ge (by omega) (by omega))) (fun c1 => ⟨h1, ?_⟩)
      have inner : ∀ k i g, i + k = rpN R j → (∀ r, r < j → g r = bI (carO R f s r)) → g j = bI (allF (fun k => decide (¬ f k &&& s = 0)) (j * 3) i) → C 30 [(0, .ref 0), (1, .ref 6), (2, .int s), (3, .int x), (4, .int y), (5, .ref 8), (6, .int (nI j)), (7, .int (nI i))] [] (ldW (sOpn S g) R L T m) 0 0 := by
        intro k2
        induction k2 with
        | zero =>
          intro i g hi hg hq
          have hi : i = rpN R j := by omega
          refine hC _ _ _ _ _ _ ?_
          refine ⟨h1, And.intro (fun c2 => ?_) (fun c2 => absurd (by show R.2.2.2.2.1 (nI j).toNatClampNeg ≤ nI i; rw [h2, h3]; exact nI_le (by omega) (by omega)) c2)⟩
          have h9 := ih (j + 1) g (by omega) (fun r hr => by
            by_cases e : r = j
            · subst e; rw [hq, hi]; rfl
            · exact hg r (by omega))
          rw [← nI_1] at h9
          exact h9
        | succ k2 ih2 =>
          intro i g hi hg hq
          have e2 : nI j * 3 + nI i = nI (j * 3 + i) := by rw [nI_mul3, nI_add]
          have hv2 : vp_in (nI j * 3 + nI i) 48 := by rw [e2]; exact vp_in_nI (by omega) (by omega)
          have hc2 : (nI j * 3 + nI i).toNatClampNeg = j * 3 + i := by rw [e2]; exact nI_clamp (by omega)
          have hfi := hf j i hrj (by omega)
          refine hC _ _ _ _ _ _ ?_
          refine ⟨h1, And.intro (fun c2 => absurd (show R.2.2.2.2.1 (nI j).toNatClampNeg ≤ nI i from c2) (by rw [h2, h3]; exact nI_ge (by omega) (by omega))) (fun c2 => ⟨hv2, And.intro (fun c3 => ?_) (fun c3 => ⟨h1, ?_⟩)⟩)⟩
          · have c3 : ¬ S.2.2.2.1 (nI j * 3 + nI i).toNatClampNeg &&& s = 0 := c3
            rw [hc2, hfi] at c3
            have h9 := ih2 (i + 1) g (by omega) hg (by rw [allF_snoc, decide_eq_true c3, Bool.and_true]; exact hq)
            rw [← nI_1] at h9
            exact h9
          · have c3 : S.2.2.2.1 (nI j * 3 + nI i).toNatClampNeg &&& s = 0 := c3
            rw [hc2, hfi] at c3
            have h9 := ih2 (i + 1) (upd g j 0) (by omega) (fun r hr => by rw [pk_un (by omega)]; exact hg r hr) (by rw [allF_snoc, decide_eq_false (fun z => z c3), Bool.and_false]; exact pk_us)
            rw [← nI_1] at h9
            have e1 : upd g j 0 = upd g (nI j).toNatClampNeg 0 := by rw [h2]
            rw [e1] at h9
            exact h9
      have h9 := inner (rpN R j) 0 (upd g j 1) (by omega) (fun r hr => by rw [pk_un (by omega)]; exact hg r hr) pk_us
      have e1 : upd g j 1 = upd g (nI j).toNatClampNeg 1 := by rw [h2]
      rw [e1] at h9
      exact h9
  exact hC _ _ _ _ _ _ (outer R.2.2.2.2.2.2.2 0 S.2.2.2.2.1 (by omega) (fun r hr => absurd hr (Nat.not_lt_zero r)))
def buyT (coin : Nat → Int32) (c : Nat) (s : Int32 × Int32) (i : Nat) : Bool := decide (cstF coin (nI i) c < s.1) || (decide (cstF coin (nI i) c = s.1) && decide (bcI (nI i) < bcI s.2))
def buyOne (coin : Nat → Int32) (c : Nat) (car : Int32 → Bool) (s : Int32 × Int32) (i : Nat) : Int32 × Int32 := if buyT coin c s i && car (nI i) then (cstF coin (nI i) c, nI i) else s
def buyF (coin : Nat → Int32) (c : Nat) (car : Int32 → Bool) : Int32 × Int32 := foldF (buyOne coin c car) 0 (2 ^ c) (1000000, -1)
theorem shl9 : ∀ c : Fin 10, (1 : Int32) <<< (nI c.val &&& 31) = nI (2 ^ c.val) := by decide
def tX5_buy : List q_I := [(0, .aload_n 0, 1, 0, 0), (1, .aload_n 1, 1, 0, 0), (2, .iload 4, 2, 0, 0), (4, .invokevirtual 37, 3, 0, 0), (7, .ldc 41, 2, 0, 0), (9, .istore 5, 2, 0, 0), (11, .iconst (-1), 1, (-1), 0), (12, .istore 6, 2, 0, 0), (14, .iconst 0, 1, 0, 0), (15, .istore 7, 2, 0, 0), (17, .iload 7, 2, 0, 0), (19, .iconst 1, 1, 1, 0), (20, .aload_n 0, 1, 0, 0), (21, .getfield 34, 3, 0, 0), (24, .ishl, 1, 0, 0), (25, .if_icmp .ge 76, 3, 0, 101), (28, .aload_n 0, 1, 0, 0), (29, .iload 7, 2, 0, 0), (31, .invokevirtual 42, 3, 0, 0), (34, .istore 8, 2, 0, 0), (36, .iload 8, 2, 0, 0), (38, .iload 5, 2, 0, 0), (40, .if_icmp .lt 23, 3, 0, 63), (43, .iload 8, 2, 0, 0), (45, .iload 5, 2, 0, 0), (47, .if_icmp .ne 20, 3, 0, 67), (50, .iload 7, 2, 0, 0), (52, .invokestatic 46, 3, 0, 0), (55, .iload 6, 2, 0, 0), (57, .invokestatic 46, 3, 0, 0), (60, .if_icmp .ge 7, 3, 0, 67), (63, .iconst 1, 1, 1, 0), (64, .goto 4, 3, 0, 68), (67, .iconst 0, 1, 0, 0), (68, .istore 9, 2, 0, 0), (70, .iload 9, 2, 0, 0), (72, .ifCond .eq 23, 3, 0, 95), (75, .aload_n 0, 1, 0, 0), (76, .aload_n 1, 1, 0, 0), (77, .iload 7, 2, 0, 0), (79, .iload_n 2, 1, 0, 0), (80, .iload_n 3, 1, 0, 0), (81, .invokevirtual 51, 3, 0, 0), (84, .ifCond .eq 11, 3, 0, 95), (87, .iload 8, 2, 0, 0), (89, .istore 5, 2, 0, 0), (91, .iload 7, 2, 0, 0), (93, .istore 6, 2, 0, 0), (95, .iinc 7 1, 3, 1, 0), (98, .goto (-81), 3, 0, 17), (101, .iload 5, 2, 0, 0), (103, .ldc 41, 2, 0, 0), (105, .if_icmp .eq 9, 3, 0, 114), (108, .aload_n 0, 1, 0, 0), (109, .iload 6, 2, 0, 0), (111, .putfield 30, 3, 0, 0), (114, .iload 5, 2, 0, 0), (116, .ireturn, 1, 0, 0)]
theorem tX5_buy_ok : (tX5_buy.all (q_okI cX5_buy)) = true := by decide +kernel

abbrev fdX5_buy : List (Nat ⊕ (Nat × Nat)) := [.inl 0, .inr (0, 0), .inr (0, 1), .inr (0, 2), .inr (0, 3), .inr (0, 4), .inl 1, .inr (6, 0), .inr (6, 5), .inr (8, 0), .inr (8, 1), .inr (8, 2), .inr (8, 3), .inr (8, 4), .inr (8, 5), .inr (8, 6), .inr (6, 6), .inr (16, 0), .inr (16, 1), .inr (16, 2), .inr (16, 3), .inr (16, 4), .inr (16, 5), .inr (16, 6)]
def spX5_buy : q_P := fun a w K => ∃ (S : ST) (R : RT) (L : LT) (T : Nat → Int32) (m : Int32) (n : Nat) (x y d : Int32), w = ldW S R L T m ∧ a = [.ref 0, .ref 6, .int x, .int y, .int d] ∧ rOk R ∧ L_n L ≤ 24 ∧ S.2.2.2.2.2.1 ≤ 9 ∧ T 0 = nI n ∧ n ≤ 8 ∧ ∀ g1 g2, K (.inl (some (.int (buyF S.2.2.1 S.2.2.2.2.2.1 (fun s => carB R (fun k => fitF S L R d k S.2.2.2.2.2.1) n s x y)).1))) (ldW (sBgt (sOpn (sFit S g1) g2) (if (buyF S.2.2.1 S.2.2.2.2.2.1 (fun s => carB R (fun k => fitF S L R d k S.2.2.2.2.2.1) n s x y)).1 = 1000000 then S.2.2.2.2.2.2 else (buyF S.2.2.1 S.2.2.2.2.2.1 (fun s => carB R (fun k => fitF S L R d k S.2.2.2.2.2.1) n s x y)).2)) R L T m)
abbrev csX5_buy : q_S := (5, 5, 3, 10, 0, 0, fdX5_buy, spX5_buy)
theorem coX5_37 (l : Launch) : q_CO l RX5 37 csX5_findFitting := ⟨yX5_findFitting, cX5_findFitting, none, 2, ⟨by decide +kernel, by decide +kernel, by decide +kernel⟩, q_G_i 13 (by decide +kernel) rfl, Or.inl ⟨by decide, rfl, rfl, q_G_i 987 (by decide +kernel) rfl, q_G_i 989 (by decide +kernel) rfl, q_G_s (n := 7) 37 (by decide +kernel), Or.inl ⟨q_G_i 990 (by decide +kernel) rfl, ctX5_findFitting l⟩⟩⟩
theorem coX5_42 (l : Launch) : q_CO l RX5 42 csX5_costOf := ⟨yX5_costOf, cX5_costOf, (some .int), 1, ⟨by decide +kernel, by decide +kernel, by decide +kernel⟩, q_G_i 13 (by decide +kernel) rfl, Or.inl ⟨by decide, rfl, rfl, q_G_i 993 (by decide +kernel) rfl, q_G_i 995 (by decide +kernel) rfl, q_G_s (n := 7) 38 (by decide +kernel), Or.inl ⟨q_G_i 996 (by decide +kernel) rfl, ctX5_costOf l⟩⟩⟩
theorem coX5_46 (l : Launch) : q_CO l RX5 46 csJ6_bitCount_0f7a4 := ⟨yJ6_bitCount_0f7a4, cJ6_bitCount_0f7a4, (some .int), 1, ⟨by decide +kernel, by decide +kernel, by decide +kernel⟩, q_G_i 24 (by decide +kernel) rfl, Or.inr (Or.inr (Or.inr ⟨rfl, rfl, q_G_i 997 (by decide +kernel) rfl, q_G_i 958 (by decide +kernel) rfl, Or.inl ⟨q_G_i 959 (by decide +kernel) rfl, ctJ6_bitCount_0f7a4 l⟩⟩))⟩
theorem coX5_51 (l : Launch) : q_CO l RX5 51 csX5_carries := ⟨yX5_carries, cX5_carries, (some .boolean), 4, ⟨by decide +kernel, by decide +kernel, by decide +kernel⟩, q_G_i 13 (by decide +kernel) rfl, Or.inl ⟨by decide, rfl, rfl, q_G_i 998 (by decide +kernel) rfl, q_G_i 1000 (by decide +kernel) rfl, q_G_s (n := 7) 39 (by decide +kernel), Or.inl ⟨q_G_i 1001 (by decide +kernel) rfl, ctX5_carries l⟩⟩⟩
def EX5_buy : q_E := (tX5_buy, [(17, [0, 1, 2, 3, 5, 6, 7])], 10, flX5, [(37, csX5_findFitting), (42, csX5_costOf), (46, csJ6_bitCount_0f7a4), (51, csX5_carries)], [], [(41, 1000000)], [], [], [], 3, 0, 0, (some .int), [], [], 0, 0)
theorem okX5_buy (l : Launch) : q_Eok l RX5 cX5_buy EX5_buy := ⟨tX5_buy_ok, flX5_ok, List.forall_mem_cons.mpr ⟨(coX5_37 l), List.forall_mem_cons.mpr ⟨(coX5_42 l), List.forall_mem_cons.mpr ⟨(coX5_46 l), List.forall_mem_cons.mpr ⟨(coX5_51 l), q_nil⟩⟩⟩⟩, q_nil, List.forall_mem_cons.mpr ⟨q_G_i 992 (by decide +kernel) rfl, q_nil⟩, q_nil, q_nil, q_nil, (fun h => absurd h (by decide))⟩
set_option maxRecDepth 100000 in
set_option maxHeartbeats 4000000 in
theorem ctX5_buy (l : Launch) : q_CT l yX5_buy (.code yX5_buy cX5_buy 10 (some .int)) 3 0 0 spX5_buy := by
  refine q_ct_of EX5_buy (by decide +kernel) (okX5_buy l) rfl rfl rfl rfl rfl q_nil (fun ci h => by cases h) rfl ?_
  intro a w K h
  obtain ⟨S, R, L, T, m, n, x, y, d, rfl, rfl, hro, hL, hS, hT, hn, hK⟩ := h
  have hrn := hro.1
  refine ⟨Nat.le_of_ble_eq_true rfl, fun C hC => hC _ _ _ _ _ _ ?_⟩
  refine ⟨S, R, L, T, m, d, rfl, rfl, hro, hL, hS, fun g1 hg1 => ?_⟩
  have h2c : (1 : Int32) <<< (nI S.2.2.2.2.2.1 &&& 31) = nI (2 ^ S.2.2.2.2.2.1) := shl9 ⟨S.2.2.2.2.2.1, by omega⟩
  have h29 : 2 ^ S.2.2.2.2.2.1 ≤ 512 := Nat.pow_le_pow_right (n := 2) (by decide) hS
  generalize hcr : (fun s => carB R (fun k => fitF S L R d k S.2.2.2.2.2.1) n s x y) = car at hK
  have hca : ∀ s, carB R (fun k => fitF S L R d k S.2.2.2.2.2.1) n s x y = car s := fun s => by rw [← hcr]
  have loop : ∀ k i s g2, i + k = 2 ^ S.2.2.2.2.2.1 → buyF S.2.2.1 S.2.2.2.2.2.1 car = foldF (buyOne S.2.2.1 S.2.2.2.2.2.1 car) i k s → C 17 [(0, .ref 0), (1, .ref 6), (2, .int x), (3, .int y), (5, .int s.1), (6, .int s.2), (7, .int (nI i))] [] (ldW (sOpn (sFit S g1) g2) R L T m) 0 0 := by
    intro k
    induction k with
    | zero =>
      intro i s g2 hi he
      have h9 := hK g1 g2
      rw [he, foldF] at h9
      refine hC _ _ _ _ _ _ ?_
      refine And.intro (fun c1 => And.intro (fun c2 => ?_) (fun c2 => ?_)) (fun c1 => absurd (by show (1 : Int32) <<< (nI S.2.2.2.2.2.1 &&& 31) ≤ nI i; rw [h2c]; exact nI_le (by omega) (by omega)) c1)
      · have c2 : s.1 = 1000000 := c2
        rw [if_pos c2] at h9; exact h9
      · have c2 : ¬ s.1 = 1000000 := c2
        rw [if_neg c2] at h9; exact h9
    | succ k ih =>
      intro i s g2 hi he
      rw [foldF] at he
      have no : ∀ g2, buyOne S.2.2.1 S.2.2.2.2.2.1 car s i = s → C 17 [(0, .ref 0), (1, .ref 6), (2, .int x), (3, .int y), (5, .int s.1), (6, .int s.2), (7, .int (nI i + 1))] [] (ldW (sOpn (sFit S g1) g2) R L T m) 0 0 := by
        intro g2 e
        have h9 := ih (i + 1) s g2 (by omega) (by rw [he, e])
        rw [← nI_1 i] at h9
        exact h9
      have yes : ∀ g2, buyOne S.2.2.1 S.2.2.2.2.2.1 car s i = (cstF S.2.2.1 (nI i) S.2.2.2.2.2.1, nI i) → C 17 [(0, .ref 0), (1, .ref 6), (2, .int x), (3, .int y), (5, .int (cstF S.2.2.1 (nI i) S.2.2.2.2.2.1)), (6, .int (nI i)), (7, .int (nI i + 1))] [] (ldW (sOpn (sFit S g1) g2) R L T m) 0 0 := by
        intro g2 e
        have h9 := ih (i + 1) _ g2 (by omega) (by rw [he, e])
        rw [← nI_1 i] at h9
        exact h9
      refine hC _ _ _ _ _ _ ?_
      refine And.intro (fun c1 => absurd (show (1 : Int32) <<< (nI S.2.2.2.2.2.1 &&& 31) ≤ nI i from c1) (by rw [h2c]; exact nI_ge (by omega) (by omega))) (fun c1 => ?_)
      refine ⟨sOpn (sFit S g1) g2, _, rfl, rfl, hS, And.intro (fun c2 => ?_) (fun c2 => And.intro (fun c3 => ?_) (fun c3 => ?_))⟩
      · have c2 : cstF S.2.2.1 (nI i) S.2.2.2.2.2.1 < s.1 := c2
        have ht : buyT S.2.2.1 S.2.2.2.2.2.1 s i = true := by rw [buyT, decide_eq_true c2, Bool.true_or]
        refine And.intro (fun c => absurd c (by decide)) (fun _ => ?_)
        refine ⟨sOpn (sFit S g1) g2, R, L, T, m, fun k => fitF S L R d k S.2.2.2.2.2.1, n, _, _, _, rfl, rfl, hro, hT, hn, hg1, fun g => ?_⟩
        rw [hca]
        refine And.intro (fun c4 => no _ ?_) (fun c4 => yes _ ?_)
        · rw [buyOne, bI_0.mp c4, Bool.and_false]; rfl
        · rw [buyOne, ht, bI_n0.mp c4]; rfl
      · have c2 : ¬ cstF S.2.2.1 (nI i) S.2.2.2.2.2.1 < s.1 := c2
        have c3 : ¬ cstF S.2.2.1 (nI i) S.2.2.2.2.2.1 = s.1 := c3
        have ht : buyT S.2.2.1 S.2.2.2.2.2.1 s i = false := by rw [buyT, decide_eq_false c2, decide_eq_false c3]; rfl
        refine And.intro (fun _ => no _ ?_) (fun c => absurd rfl c)
        rw [buyOne, ht, Bool.false_and]; rfl
      · have c2 : ¬ cstF S.2.2.1 (nI i) S.2.2.2.2.2.1 < s.1 := c2
        have c3 : cstF S.2.2.1 (nI i) S.2.2.2.2.2.1 = s.1 := c3
        refine ⟨_, rfl, rfl, _, rfl, rfl, And.intro (fun c4 => ?_) (fun c4 => ?_)⟩
        · have c4 : bcI s.2 ≤ bcI (nI i) := c4
          have ht : buyT S.2.2.1 S.2.2.2.2.2.1 s i = false := by rw [buyT, decide_eq_false c2, decide_eq_false (Int32.not_lt.mpr c4), Bool.and_false]; rfl
          refine And.intro (fun _ => no _ ?_) (fun c => absurd rfl c)
          rw [buyOne, ht, Bool.false_and]; rfl
        · have c4 : ¬ bcI s.2 ≤ bcI (nI i) := c4
          have ht : buyT S.2.2.1 S.2.2.2.2.2.1 s i = true := by rw [buyT, decide_eq_true c3, decide_eq_true (Int32.not_le.mp c4), Bool.and_self, Bool.or_true]
          refine And.intro (fun c => absurd c (by decide)) (fun _ => ?_)
          refine ⟨sOpn (sFit S g1) g2, R, L, T, m, fun k => fitF S L R d k S.2.2.2.2.2.1, n, _, _, _, rfl, rfl, hro, hT, hn, hg1, fun g => ?_⟩
          rw [hca]
          refine And.intro (fun c5 => no _ ?_) (fun c5 => yes _ ?_)
          · rw [buyOne, bI_0.mp c5, Bool.and_false]; rfl
          · rw [buyOne, ht, bI_n0.mp c5]; rfl
  exact loop (2 ^ S.2.2.2.2.2.1) 0 (1000000, -1) S.2.2.2.2.1 (by omega) rfl
