theorem mskB_le (tx : Nat → Int32) (n : Nat) : ∀ f i, mskB tx n f i ≤ i + f
  | 0, i => Nat.le_refl _
  | f + 1, i => by
    rw [mskB]
    split
    · have := mskB_le tx n f (i + 1); omega
    · omega
theorem mwd_le (tx : Nat → Int32) (n : Nat) : ∀ f i c w, (mwd tx n f i c w).1 ≤ i + f
  | 0, i, c, w => Nat.le_refl _
  | f + 1, i, c, w => by
    rw [mwd]
    split
    · have := mwd_le tx n f (i + 1) (c + 1) (if c < 8 then 32 * w + (mb tx n i - 97 + 1).toInt64 else w); omega
    · show i ≤ i + (f + 1); omega
theorem mnm_le (tx : Nat → Int32) (n : Nat) : ∀ f i c w, (mnm tx n f i c w).1 ≤ i + f
  | 0, i, c, w => Nat.le_refl _
  | f + 1, i, c, w => by
    rw [mnm]
    split
    · have := mnm_le tx n f (i + 1) (c + 1) (if c < 4 then 10 * w + mb tx n i - 48 else w); omega
    · show i ≤ i + (f + 1); omega
theorem nxF_le {tx : Nat → Int32} {n : Nat} {Q : QT} (h : Q.1 ≤ n) : (nxF tx n Q).1 ≤ n := by
  unfold nxF
  have hs : mskB tx n (n - Q.1) Q.1 ≤ n := by have := mskB_le tx n (n - Q.1) Q.1; omega
  generalize mskB tx n (n - Q.1) Q.1 = s at hs ⊢
  unfold nxS
  split
  · exact hs
  · next c =>
    split
    · have := mwd_le tx n (n - s) s 0 0
      show (mwd tx n (n - s) s 0 0).1 ≤ n
      omega
    · split
      · have := mnm_le tx n (n - s) s 0 0
        show (mnm tx n (n - s) s 0 0).1 ≤ n
        omega
      · split
        · have := mb_lt c
          show s + 1 ≤ n
          omega
        · exact hs
theorem tdF_Q {tx : Nat → Int32} {n : Nat} {B : BT} {Q Q' : QT} {s v : Int32} (h : tdF tx n B Q s = .inr (v, Q')) : Q' = nxF tx n Q := by
  unfold tdF at h
  split at h
  · split at h
    · cases h
    · split at h
      · cases h; rfl
      · cases h
  · cases h
theorem whF_Q {tx : Nat → Int32} {n : Nat} {Q Q' : QT} {lo hi v : Int32} (h : whF tx n Q lo hi = .inr (v, Q')) : Q' = nxF tx n Q := by
  unfold whF at h
  split at h
  · split at h
    · cases h; rfl
    · cases h
  · cases h
def tdK {α : Type} (r : Int32 ⊕ (Int32 × QT)) (Q : QT) (k : Int32 → QT → α) (kf : Int32 → Nat → α) : α := match r with
  | .inl e => kf e Q.2.2.1
  | .inr (v, Q') => k v Q'
def nwK {α : Type} (tx : Nat → Int32) (n : Nat) (Q : QT) (t : Nat) (k : QT → α) (kf : Int32 → Nat → α) : α := if isWB Q t = true then k (nxF tx n Q) else kf 1 Q.2.2.1
/-- told numbers and how many names there are -/
def bInv (B : BT) : Prop := ∃ t0 t1 t2 t3, B.1 0 = nI t0 ∧ B.1 1 = nI t1 ∧ B.1 2 = nI t2 ∧ B.1 3 = nI t3 ∧ t0 ≤ 8 ∧ t1 ≤ 5 ∧ t2 ≤ 6 ∧ t3 ≤ 6 ∧ B.2.2.2.2 = t0 + t1 + t2 + t3
def mThK {α : Type} (tx : Nat → Int32) (n : Nat) (s : Nat) (rm : Int32) (B : BT) (Q : QT) (k : QT → BT → α) (kf : Int32 → Nat → α) : α :=
  if B.1 s = rm then kf 5 Q.2.2.1 else if isNM (nxF tx n Q) = true then (match fstO (fun i => decide (B.2.1 i = (nxF tx n Q).2.2.2.2)) 0 B.2.2.2.2 with | some _ => kf 3 (nxF tx n Q).2.2.1 | none => k (nxF tx n (nxF tx n Q)) (bookTell B (nxF tx n Q).2.2.2.2 s)) else kf 1 (nxF tx n Q).2.2.1

def tX14_readThing : List q_I := [(0, .aload_n 0, 1, 0, 0), (1, .getfield 215, 3, 0, 0), (4, .getfield 246, 3, 0, 0), (7, .iload_n 1, 1, 0, 0), (8, .iaload, 1, 0, 0), (9, .iload_n 2, 1, 0, 0), (10, .if_icmp .ne 9, 3, 0, 19), (13, .aload_n 0, 1, 0, 0), (14, .iconst 5, 1, 5, 0), (15, .invokevirtual 201, 3, 0, 0), (18, .athrow, 1, 0, 0), (19, .aload_n 0, 1, 0, 0), (20, .invokevirtual 204, 3, 0, 0), (23, .aload_n 0, 1, 0, 0), (24, .invokevirtual 211, 3, 0, 0), (27, .ifCond .ne 9, 3, 0, 36), (30, .aload_n 0, 1, 0, 0), (31, .iconst 1, 1, 1, 0), (32, .invokevirtual 201, 3, 0, 0), (35, .athrow, 1, 0, 0), (36, .aload_n 0, 1, 0, 0), (37, .getfield 215, 3, 0, 0), (40, .aload_n 0, 1, 0, 0), (41, .getfield 165, 3, 0, 0), (44, .invokevirtual 219, 3, 0, 0), (47, .iconst (-1), 1, (-1), 0), (48, .if_icmp .eq 9, 3, 0, 57), (51, .aload_n 0, 1, 0, 0), (52, .iconst 3, 1, 3, 0), (53, .invokevirtual 201, 3, 0, 0), (56, .athrow, 1, 0, 0), (57, .aload_n 0, 1, 0, 0), (58, .getfield 215, 3, 0, 0), (61, .getfield 249, 3, 0, 0), (64, .aload_n 0, 1, 0, 0), (65, .getfield 215, 3, 0, 0), (68, .getfield 252, 3, 0, 0), (71, .aload_n 0, 1, 0, 0), (72, .getfield 165, 3, 0, 0), (75, .lastore, 1, 0, 0), (76, .aload_n 0, 1, 0, 0), (77, .getfield 215, 3, 0, 0), (80, .getfield 225, 3, 0, 0), (83, .aload_n 0, 1, 0, 0), (84, .getfield 215, 3, 0, 0), (87, .getfield 252, 3, 0, 0), (90, .iload_n 1, 1, 0, 0), (91, .iastore, 1, 0, 0), (92, .aload_n 0, 1, 0, 0), (93, .getfield 215, 3, 0, 0), (96, .getfield 227, 3, 0, 0), (99, .aload_n 0, 1, 0, 0), (100, .getfield 215, 3, 0, 0), (103, .getfield 252, 3, 0, 0), (106, .aload_n 0, 1, 0, 0), (107, .getfield 215, 3, 0, 0), (110, .getfield 246, 3, 0, 0), (113, .iload_n 1, 1, 0, 0), (114, .iaload, 1, 0, 0), (115, .iastore, 1, 0, 0), (116, .aload_n 0, 1, 0, 0), (117, .getfield 215, 3, 0, 0), (120, .dup, 1, 0, 0), (121, .getfield 252, 3, 0, 0), (124, .iconst 1, 1, 1, 0), (125, .iadd, 1, 0, 0), (126, .putfield 252, 3, 0, 0), (129, .aload_n 0, 1, 0, 0), (130, .getfield 215, 3, 0, 0), (133, .getfield 246, 3, 0, 0), (136, .iload_n 1, 1, 0, 0), (137, .dup2, 1, 0, 0), (138, .iaload, 1, 0, 0), (139, .iconst 1, 1, 1, 0), (140, .iadd, 1, 0, 0), (141, .iastore, 1, 0, 0), (142, .aload_n 0, 1, 0, 0), (143, .invokevirtual 204, 3, 0, 0), (146, .return_, 1, 0, 0)]
theorem tX14_readThing_ok : (tX14_readThing.all (q_okI cX14_readThing)) = true := by decide +kernel

abbrev fdX14_readThing : List (Nat ⊕ (Nat × Nat)) := [.inl 0, .inr (0, 7), .inr (0, 6), .inr (0, 5), .inr (3, 0), .inr (3, 1), .inr (3, 2), .inr (3, 3), .inr (3, 8), .inr (3, 9), .inr (3, 10), .inr (3, 11), .inr (3, 12), .inr (3, 13), .inr (3, 14), .inr (3, 15), .inr (3, 16), .inr (3, 17), .inr (3, 18), .inr (3, 19), .inr (3, 20), .inr (3, 21), .inr (3, 22), .inr (3, 23), .inr (3, 24), .inr (3, 25), .inr (3, 26), .inr (3, 27), .inr (3, 28)]
def spX14_readThing : q_P := fun a w K => ∃ (th : Int32) (tr : Int32) (wh : Int32) (fa : Int32) (ta : Int32) (td : Int32) (pn : Int32) (mk : Int32) (mo : Int32) (sn : Int32) (bo : Int32) (jn : Int32) (qn : Int32) (cn : Int32) (n : Nat) (Q : QT) (bk : Value) (tx : Nat → Int32) (sk : Int32) (sp : Int32) (B : BT) (R : RT) (L : LT) (G : GT) (s : Nat) (rm : Int32), w = (modelZ th tr wh fa ta td pn mk mo sn bo jn qn cn n Q bk tx sk sp B R L G) ∧ a = [.ref 0, .int (nI s), .int rm] ∧ n ≤ 700 ∧ Q.1 ≤ n ∧ bkZ bk ∧ s < 4 ∧ B.2.2.2.2 ≤ 25 ∧ (¬ B.1 s = rm → B.2.2.2.2 < 25) ∧ mThK tx n s rm B Q (fun Q' B' => K (.inl none) (modelZ th tr wh fa ta td pn mk mo sn bo jn qn cn n (Q') bk tx sk sp (B') R L G)) (fun e p => ∀ Q', K (.inr (.ref 2)) (modelZ th tr wh fa ta td pn mk mo sn bo jn qn cn n (Q') bk tx (e) (nI p) B R L G))
abbrev csX14_readThing : q_S := (3, 14, 7, 3, 0, 0, fdX14_readThing, spX14_readThing)
def EX14_readThing : q_E := (tX14_readThing, [], 3, flX14, [(201, csX14_stop), (204, csX14_next), (211, csX14_isName), (219, csX12_find)], [], [], [], [], [], 7, 0, 0, none, [], [], 0, 0)
theorem okX14_readThing (l : Launch) : q_Eok l RX14 cX14_readThing EX14_readThing := ⟨tX14_readThing_ok, flX14_ok, List.forall_mem_cons.mpr ⟨(coX14_201 l), List.forall_mem_cons.mpr ⟨(coX14_204 l), List.forall_mem_cons.mpr ⟨(coX14_211 l), List.forall_mem_cons.mpr ⟨(coX14_219 l), q_nil⟩⟩⟩⟩, q_nil, q_nil, q_nil, q_nil, q_nil, (fun h => absurd h (by decide))⟩
set_option maxRecDepth 100000 in
set_option maxHeartbeats 4000000 in
theorem ctX14_readThing (l : Launch) : q_CT l yX14_readThing (.code yX14_readThing cX14_readThing 3 none) 7 0 0 spX14_readThing := by
  refine q_ct_of EX14_readThing (by decide +kernel) (okX14_readThing l) rfl rfl rfl rfl rfl q_nil (fun ci h => by cases h) rfl ?_
  intro a w K h
  obtain ⟨th, tr, wh, fa, ta, td, pn, mk, mo, sn, bo, jn, qn, cn, n, Q, bk, tx, sk, sp, B, R, L, G, s, rm, rfl, rfl, hn, hQ, hbk, hs, hB, hB2, hK⟩ := h
  have hvs : vp_in (nI s) 4 := vp_in_nI hs (by omega)
  have hcs : (nI s).toNatClampNeg = s := nI_clamp (by omega)
  have hQ1 : (nxF tx n Q).1 ≤ n := nxF_le hQ
  rcases hbk with rfl | rfl | rfl
  · refine ⟨Nat.le_of_ble_eq_true rfl, fun C hC => hC _ _ _ _ _ _ ?_⟩
    refine ⟨hvs, And.intro (fun c => ?_) (fun c => ?_)⟩
    · rw [hcs] at c
      rw [mThK, if_neg c] at hK
      have hlt := hB2 c
      have hv : vp_in (nI B.2.2.2.2) 25 := vp_in_nI hlt (by omega)
      have hc : (nI B.2.2.2.2).toNatClampNeg = B.2.2.2.2 := nI_clamp (by omega)
      refine ⟨_, _, _, _, _, _, _, _, _, _, _, _, _, _, _, _, _, _, rfl, rfl, hn, hQ, (by first | exact Or.inl rfl | exact Or.inr rfl), _, _, _, _, _, _, _, _, _, _, _, _, _, _, _, nxF tx n Q, _, rfl, rfl, (by first | exact Or.inl rfl | exact Or.inr rfl), And.intro (fun c2 => ?_) (fun c2 => ?_)⟩
      · rw [if_pos (bI_n0.mp c2)] at hK
        refine ⟨B, R, L, G, _, rfl, rfl, hB, And.intro (fun c3 => ?_) (fun c3 => ?_)⟩
        · rcases hf : fstO (fun i => decide (B.2.1 i = (nxF tx n Q).2.2.2.2)) 0 B.2.2.2.2 with _ | k
          · rw [hf] at hK
            refine ⟨hv, hv, hvs, hv, hvs, hvs, ?_⟩
            have hK : K (.inl none) (modelZ th tr wh fa ta td pn mk mo sn bo jn qn cn n (nxF tx n (nxF tx n Q)) (.null) tx sk sp (bookTell B (nxF tx n Q).2.2.2.2 s) R L G) := hK
            rw [hc, hcs, nI_1]
            exact ⟨_, _, _, _, _, _, _, _, _, _, _, _, _, _, _, nxF tx n Q, _, _, rfl, rfl, hn, hQ1, (by first | exact Or.inl rfl | exact Or.inr rfl), hK⟩
          · rw [hf] at c3
            have hk := (fstO_lt2 hf).2
            exact absurd c3 (nI_nm1 (by omega))
        · rcases hf : fstO (fun i => decide (B.2.1 i = (nxF tx n Q).2.2.2.2)) 0 B.2.2.2.2 with _ | k
          · rw [hf] at c3
            exact absurd rfl c3
          · rw [hf] at hK
            exact ⟨_, _, _, _, _, _, _, _, _, _, _, _, _, _, _, nxF tx n Q, _, _, _, _, _, rfl, rfl, hK (nxF tx n Q)⟩
      · rw [if_neg (by rw [bI_0.mp c2]; decide)] at hK
        exact ⟨_, _, _, _, _, _, _, _, _, _, _, _, _, _, _, nxF tx n Q, _, _, _, _, _, rfl, rfl, hK (nxF tx n Q)⟩
    · rw [hcs] at c
      rw [mThK, if_pos c] at hK
      exact ⟨_, _, _, _, _, _, _, _, _, _, _, _, _, _, _, _, _, _, _, _, _, rfl, rfl, hK Q⟩
  · refine ⟨Nat.le_of_ble_eq_true rfl, fun C hC => hC _ _ _ _ _ _ ?_⟩
    refine ⟨hvs, And.intro (fun c => ?_) (fun c => ?_)⟩
    · rw [hcs] at c
      rw [mThK, if_neg c] at hK
      have hlt := hB2 c
      have hv : vp_in (nI B.2.2.2.2) 25 := vp_in_nI hlt (by omega)
      have hc : (nI B.2.2.2.2).toNatClampNeg = B.2.2.2.2 := nI_clamp (by omega)
      refine ⟨_, _, _, _, _, _, _, _, _, _, _, _, _, _, _, _, _, _, rfl, rfl, hn, hQ, (by first | exact Or.inl rfl | exact Or.inr rfl), _, _, _, _, _, _, _, _, _, _, _, _, _, _, _, nxF tx n Q, _, rfl, rfl, (by first | exact Or.inl rfl | exact Or.inr rfl), And.intro (fun c2 => ?_) (fun c2 => ?_)⟩
      · rw [if_pos (bI_n0.mp c2)] at hK
        refine ⟨B, R, L, G, _, rfl, rfl, hB, And.intro (fun c3 => ?_) (fun c3 => ?_)⟩
        · rcases hf : fstO (fun i => decide (B.2.1 i = (nxF tx n Q).2.2.2.2)) 0 B.2.2.2.2 with _ | k
          · rw [hf] at hK
            refine ⟨hv, hv, hvs, hv, hvs, hvs, ?_⟩
            have hK : K (.inl none) (modelZ th tr wh fa ta td pn mk mo sn bo jn qn cn n (nxF tx n (nxF tx n Q)) (tk 0 4) tx sk sp (bookTell B (nxF tx n Q).2.2.2.2 s) R L G) := hK
            rw [hc, hcs, nI_1]
            exact ⟨_, _, _, _, _, _, _, _, _, _, _, _, _, _, _, nxF tx n Q, _, _, rfl, rfl, hn, hQ1, (by first | exact Or.inl rfl | exact Or.inr rfl), hK⟩
          · rw [hf] at c3
            have hk := (fstO_lt2 hf).2
            exact absurd c3 (nI_nm1 (by omega))
        · rcases hf : fstO (fun i => decide (B.2.1 i = (nxF tx n Q).2.2.2.2)) 0 B.2.2.2.2 with _ | k
          · rw [hf] at c3
            exact absurd rfl c3
          · rw [hf] at hK
            exact ⟨_, _, _, _, _, _, _, _, _, _, _, _, _, _, _, nxF tx n Q, _, _, _, _, _, rfl, rfl, hK (nxF tx n Q)⟩
      · rw [if_neg (by rw [bI_0.mp c2]; decide)] at hK
        exact ⟨_, _, _, _, _, _, _, _, _, _, _, _, _, _, _, nxF tx n Q, _, _, _, _, _, rfl, rfl, hK (nxF tx n Q)⟩
    · rw [hcs] at c
      rw [mThK, if_pos c] at hK
      exact ⟨_, _, _, _, _, _, _, _, _, _, _, _, _, _, _, _, _, _, _, _, _, rfl, rfl, hK Q⟩
  · refine ⟨Nat.le_of_ble_eq_true rfl, fun C hC => hC _ _ _ _ _ _ ?_⟩
    refine ⟨hvs, And.intro (fun c => ?_) (fun c => ?_)⟩
    · rw [hcs] at c
      rw [mThK, if_neg c] at hK
      have hlt := hB2 c
      have hv : vp_in (nI B.2.2.2.2) 25 := vp_in_nI hlt (by omega)
      have hc : (nI B.2.2.2.2).toNatClampNeg = B.2.2.2.2 := nI_clamp (by omega)
      refine ⟨_, _, _, _, _, _, _, _, _, _, _, _, _, _, _, _, _, _, rfl, rfl, hn, hQ, (by first | exact Or.inl rfl | exact Or.inr rfl), _, _, _, _, _, _, _, _, _, _, _, _, _, _, _, nxF tx n Q, _, rfl, rfl, (by first | exact Or.inl rfl | exact Or.inr rfl), And.intro (fun c2 => ?_) (fun c2 => ?_)⟩
      · rw [if_pos (bI_n0.mp c2)] at hK
        refine ⟨B, R, L, G, _, rfl, rfl, hB, And.intro (fun c3 => ?_) (fun c3 => ?_)⟩
        · rcases hf : fstO (fun i => decide (B.2.1 i = (nxF tx n Q).2.2.2.2)) 0 B.2.2.2.2 with _ | k
          · rw [hf] at hK
            refine ⟨hv, hv, hvs, hv, hvs, hvs, ?_⟩
            have hK : K (.inl none) (modelZ th tr wh fa ta td pn mk mo sn bo jn qn cn n (nxF tx n (nxF tx n Q)) (.ref 3) tx sk sp (bookTell B (nxF tx n Q).2.2.2.2 s) R L G) := hK
            rw [hc, hcs, nI_1]
            exact ⟨_, _, _, _, _, _, _, _, _, _, _, _, _, _, _, nxF tx n Q, _, _, rfl, rfl, hn, hQ1, (by first | exact Or.inl rfl | exact Or.inr rfl), hK⟩
          · rw [hf] at c3
            have hk := (fstO_lt2 hf).2
            exact absurd c3 (nI_nm1 (by omega))
        · rcases hf : fstO (fun i => decide (B.2.1 i = (nxF tx n Q).2.2.2.2)) 0 B.2.2.2.2 with _ | k
          · rw [hf] at c3
            exact absurd rfl c3
          · rw [hf] at hK
            exact ⟨_, _, _, _, _, _, _, _, _, _, _, _, _, _, _, nxF tx n Q, _, _, _, _, _, rfl, rfl, hK (nxF tx n Q)⟩
      · rw [if_neg (by rw [bI_0.mp c2]; decide)] at hK
        exact ⟨_, _, _, _, _, _, _, _, _, _, _, _, _, _, _, nxF tx n Q, _, _, _, _, _, rfl, rfl, hK (nxF tx n Q)⟩
    · rw [hcs] at c
      rw [mThK, if_pos c] at hK
      exact ⟨_, _, _, _, _, _, _, _, _, _, _, _, _, _, _, _, _, _, _, _, _, rfl, rfl, hK Q⟩
theorem upd2 (f : Nat → Int32) (i : Nat) (a b : Int32) : upd (upd f i a) i b = upd f i b := by
  funext j
  simp only [upd]
  split <;> rfl
def lEq (L L' : LT) : Prop := L_n L' = L_n L ∧ ∀ i, i < L_n L → L'.1 i = L.1 i ∧ L'.2.1 i = L.2.1 i ∧ L'.2.2.1 i = L.2.2.1 i ∧ L'.2.2.2.1 i = L.2.2.2.1 i ∧ L'.2.2.2.2.1 i = L.2.2.2.2.1 i ∧ L'.2.2.2.2.2.1 i = L.2.2.2.2.2.1 i ∧ L'.2.2.2.2.2.2.1 i = L.2.2.2.2.2.2.1 i
theorem lEq_r (L : LT) : lEq L L := ⟨rfl, fun _ _ => ⟨rfl, rfl, rfl, rfl, rfl, rfl, rfl⟩⟩
theorem lEq_u {L : LT} {f1 f2 f3 f4 f5 f6 f7 : Nat → Int32} (h1 : ∀ i, i < L_n L → f1 i = L.1 i) (h2 : ∀ i, i < L_n L → f2 i = L.2.1 i) (h3 : ∀ i, i < L_n L → f3 i = L.2.2.1 i) (h4 : ∀ i, i < L_n L → f4 i = L.2.2.2.1 i) (h5 : ∀ i, i < L_n L → f5 i = L.2.2.2.2.1 i) (h6 : ∀ i, i < L_n L → f6 i = L.2.2.2.2.2.1 i) (h7 : ∀ i, i < L_n L → f7 i = L.2.2.2.2.2.2.1 i) : lEq L (f1, f2, f3, f4, f5, f6, f7, L_n L) := ⟨rfl, fun i hi => ⟨h1 i hi, h2 i hi, h3 i hi, h4 i hi, h5 i hi, h6 i hi, h7 i hi⟩⟩
def mLaw3 {α : Type} (tx : Nat → Int32) (n : Nat) (kn : Int32) (L : LT) (ld : Int32) (tk9 : Bool) (kd of si : Int32) (Q : QT) (k : QT → LT → α) (kf : Int32 → Nat → α) : α :=
  if isWB Q 31 = true then tdK (whF tx n (nxF tx n Q) si 999) (nxF tx n Q) (fun un Q' => k Q' (lawAdd L ld kd of tk9 si un kn)) kf else k Q (lawAdd L ld kd of tk9 si 1000000 kn)
def mLaw2 {α : Type} (tx : Nat → Int32) (n : Nat) (kn : Int32) (B : BT) (L : LT) (ld : Int32) (tk9 : Bool) (Q : QT) (k : QT → LT → α) (kf : Int32 → Nat → α) : α :=
  tdK (tdF tx n B Q 3) Q (fun kd Q3 => nwK tx n Q3 38 (fun Q4 => tdK (tdF tx n B Q4 2) Q4 (fun of Q5 => nwK tx n Q5 39 (fun Q6 => tdK (whF tx n Q6 0 999) Q6 (fun si Q7 => mLaw3 tx n kn L ld tk9 kd of si Q7 k kf) kf) kf) kf) kf) kf
def mLawK {α : Type} (tx : Nat → Int32) (n : Nat) (kn : Int32) (B : BT) (L : LT) (Q : QT) (k : QT → LT → α) (kf : Int32 → Nat → α) : α :=
  if L_n L = 24 then kf 5 Q.2.2.1 else tdK (tdF tx n B (nxF tx n Q) 1) (nxF tx n Q) (fun ld Q2 => if isWB Q2 36 || isWB Q2 37 then mLaw2 tx n kn B L ld (isWB Q2 36) (nxF tx n Q2) k kf else kf 1 Q2.2.2.1) kf
