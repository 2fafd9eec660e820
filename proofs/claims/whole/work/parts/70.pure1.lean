/-! ===== the pure part: tuples that agree below their counts ===== -/
theorem rulO_cg {P Q : Nat → Bool} : ∀ n, (∀ i, i < n → P i = Q i) → rulO P n = rulO Q n
  | 0, _ => rfl
  | n + 1, h => by rw [rulO, rulO, h n (by omega), rulO_cg n (fun i hi => h i (by omega))]
theorem anyF_cg {f g : Nat → Bool} : ∀ n s, (∀ i, s ≤ i → i < s + n → f i = g i) → anyF f s n = anyF g s n
  | 0, _, _ => rfl
  | n + 1, s, h => by rw [anyF, anyF, h s (Nat.le_refl _) (by omega), anyF_cg n (s + 1) (fun i h1 h2 => h i (by omega) (by omega))]
theorem allF_cg {f g : Nat → Bool} : ∀ n s, (∀ i, s ≤ i → i < s + n → f i = g i) → allF f s n = allF g s n
  | 0, _, _ => rfl
  | n + 1, s, h => by rw [allF, allF, h s (Nat.le_refl _) (by omega), allF_cg n (s + 1) (fun i h1 h2 => h i (by omega) (by omega))]
theorem foldF_c2 {α : Type} {f g : α → Nat → α} : ∀ n s x, (∀ y i, s ≤ i → i < s + n → f y i = g y i) → foldF f s n x = foldF g s n x
  | 0, _, _, _ => rfl
  | n + 1, s, x, h => by rw [foldF, foldF, h x s (Nat.le_refl _) (by omega), foldF_c2 n (s + 1) _ (fun y i h1 h2 => h y i (by omega) (by omega))]
/-- the laws on both sides: an until that is not told is 999 here, 1,000,000 there -/
def lAg (L M : LT) : Prop := L_n L = L_n M ∧ ∀ i, i < L_n L → L.1 i = M.1 i ∧ L.2.1 i = M.2.1 i ∧ L.2.2.1 i = M.2.2.1 i ∧ L.2.2.2.1 i = M.2.2.2.1 i ∧ L.2.2.2.2.1 i = M.2.2.2.2.1 i ∧ (L.2.2.2.2.2.1 i = M.2.2.2.2.2.1 i ∨ (L.2.2.2.2.2.1 i = 999 ∧ M.2.2.2.2.2.1 i = 1000000)) ∧ L.2.2.2.2.2.2.1 i = M.2.2.2.2.2.2.1 i
theorem until_cg {d u v : Int32} (hd : d ≤ 999) (h : u = v ∨ (u = 999 ∧ v = 1000000)) : decide (d ≤ u) = decide (d ≤ v) := by
  rcases h with h | ⟨h1, h2⟩
  · rw [h]
  · rw [h1, h2, decide_eq_true hd, decide_eq_true (Int32.le_trans hd (by decide))]
theorem rulP_cg {L M : LT} (h : lAg L M) {a b c d e : Int32} (hd : d ≤ 999) : ∀ i, i < L_n L → rulP L a b c d e i = rulP M a b c d e i := fun i hi => by
  obtain ⟨h1, h2, h3, -, h5, h6, h7⟩ := h.2 i hi
  unfold rulP
  rw [h1, h2, h3, h5, h7, until_cg hd h6]
theorem ruling_cg {L M : LT} (h : lAg L M) {a b c d e : Int32} (hd : d ≤ 999) : ruling L a b c d e = ruling M a b c d e := by
  unfold ruling
  rw [← h.1]
  exact rulO_cg _ (rulP_cg h hd)
theorem saysT_cg {L M : LT} (h : lAg L M) {r : Option Nat} (hr : ∀ i, r = some i → i < L_n L) : saysT L r = saysT M r := by
  cases r with
  | none => rfl
  | some i => rw [saysT, saysT, (h.2 i (hr i rfl)).2.2.2.1]
theorem accOn_cg {L M : LT} (h : lAg L M) {d ld k o : Int32} (hd : d ≤ 999) : accOn L d ld k o = accOn M d ld k o := by
  unfold accOn
  rw [← ruling_cg h hd]
  exact saysT_cg h (fun i hi => rulO_lt hi)
/-- the people on both sides -/
def pAg (P N : PT) : Prop := P.2.2.2.2.2.2 = N.2.2.2.2.2.2 ∧ ∀ p, p < P.2.2.2.2.2.2 → P.1 p = N.1 p ∧ P.2.1 p = N.2.1 p ∧ ∀ q, p * 8 ≤ q → q < p * 8 + pcN P p → P.2.2.1 q = N.2.2.1 q ∧ P.2.2.2.1 q = N.2.2.2.1 q ∧ P.2.2.2.2.1 q = N.2.2.2.2.1 q ∧ P.2.2.2.2.2.1 q = N.2.2.2.2.2.1 q
theorem pcN_cg {P N : PT} (h : pAg P N) {p : Nat} (hp : p < P.2.2.2.2.2.2) : pcN P p = pcN N p := by
  unfold pcN
  rw [(h.2 p hp).2.1]
theorem perB_cg {P N : PT} (h : pAg P N) (x : Int32) : perB P x = perB N x := by
  unfold perB
  rw [h.1]
theorem hasGd_cg {P N : PT} {L M : LT} (h : pAg P N) (hl : lAg L M) {p : Nat} (hp : p < P.2.2.2.2.2.2) {k ld d : Int32} (hd : d ≤ 999) : hasGd P L p k ld d = hasGd N M p k ld d := by
  unfold hasGd
  rw [← pcN_cg h hp]
  refine anyF_cg _ _ (fun q h1 h2 => ?_)
  obtain ⟨e1, e2, e3, e4⟩ := (h.2 p hp).2.2 q h1 h2
  unfold lastsP
  rw [e1, e2, e3, e4, accOn_cg hl hd]
theorem hasLast_cg {P N : PT} (h : pAg P N) {p : Nat} (hp : p < P.2.2.2.2.2.2) {k d : Int32} : hasLast P p k d = hasLast N p k d := by
  unfold hasLast
  rw [← pcN_cg h hp]
  refine anyF_cg _ _ (fun q h1 h2 => ?_)
  obtain ⟨e1, e2, e3, e4⟩ := (h.2 p hp).2.2 q h1 h2
  unfold lastsP
  rw [e1, e3, e4]
theorem landsG_cg {P N : PT} {L M : LT} (h : pAg P N) (hl : lAg L M) {p : Nat} (hp : p < P.2.2.2.2.2.2) {k d : Int32} (hd : d ≤ 999) : ∀ n, landsG P L p k d n = landsG N M p k d n
  | 0 => rfl
  | n + 1 => by rw [landsG, landsG, hasGd_cg h hl hp hd, landsG_cg h hl hp hd n]
theorem nwF_cg {P N : PT} {L M : LT} (h : pAg P N) (hl : lAg L M) {k d : Int32} (hd : d ≤ 999) (n : Nat) : ∀ p, p ≤ P.2.2.2.2.2.2 → nwF P L k d n p = nwF N M k d n p
  | 0, _ => rfl
  | p + 1, hp => by
    rw [nwF, nwF, nwF_cg h hl hd n p (by omega)]
    unfold nwB
    rw [hasLast_cg h (by omega), landsG_cg h hl (by omega) hd]

