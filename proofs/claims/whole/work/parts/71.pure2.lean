/-- the roads on both sides -/
def rAg (R T : RT) : Prop := R.2.2.2.2.2.2.2 = T.2.2.2.2.2.2.2 ∧ ∀ r, r < R.2.2.2.2.2.2.2 → R.1 r = T.1 r ∧ R.2.1 r = T.2.1 r ∧ R.2.2.1 r = T.2.2.1 r ∧ R.2.2.2.1 r = T.2.2.2.1 r ∧ R.2.2.2.2.1 r = T.2.2.2.2.1 r ∧ ∀ q, r * 3 ≤ q → q < r * 3 + rpN R r → R.2.2.2.2.2.1 q = T.2.2.2.2.2.1 q ∧ R.2.2.2.2.2.2.1 q = T.2.2.2.2.2.2.1 q
theorem rpN_cg {R T : RT} (h : rAg R T) {r : Nat} (hr : r < R.2.2.2.2.2.2.2) : rpN R r = rpN T r := by
  unfold rpN
  rw [(h.2 r hr).2.2.2.2.1]
theorem opnW_cg {P N : PT} {L M : LT} {R T : RT} (h : pAg P N) (hl : lAg L M) (hr : rAg R T) {p r : Nat} (hp : p < P.2.2.2.2.2.2) (hrr : r < R.2.2.2.2.2.2.2) {mk mo d : Int32} (hd : d ≤ 999) : opnW R L (metB P L R p d) mk mo d r = opnW T M (metB N M T p d) mk mo d r := by
  unfold opnW
  rw [← rpN_cg hr hrr]
  refine allF_cg _ _ (fun q h1 h2 => ?_)
  obtain ⟨e1, e2⟩ := (hr.2 r hrr).2.2.2.2.2 q h1 h2
  unfold metB
  rw [e1, e2, hasGd_cg h hl hp hd, accOn_cg hl hd]
/-- a road that is open by a person's own papers alone: no post asks for the kind -1 -/
theorem opnW_open {P : PT} {L : LT} {R : RT} {p r : Nat} {mo d : Int32} (h : ∀ q, r * 3 ≤ q → q < r * 3 + rpN R r → ¬ R.2.2.2.2.2.1 q = -1) : opnW R L (metB P L R p d) (-1) mo d r = openB P L R p r d := by
  unfold opnW openB
  refine allF_cg _ _ (fun q h1 h2 => ?_)
  rw [decide_eq_false (h q h1 h2), Bool.false_and, Bool.or_false]
  rfl
/-- stamps on both sides -/
def sAg (S U : ST) : Prop := S.2.2.2.2.2.1 = U.2.2.2.2.2.1 ∧ S.2.2.2.2.2.2 = U.2.2.2.2.2.2 ∧ ∀ i, i < S.2.2.2.2.2.1 → S.1 i = U.1 i ∧ S.2.1 i = U.2.1 i ∧ S.2.2.1 i = U.2.2.1 i
theorem fitF_cg {S U : ST} {L M : LT} {R T : RT} (hs : sAg S U) (hl : lAg L M) {d : Int32} (hd : d ≤ 999) {q : Nat} (h1 : R.2.2.2.2.2.1 q = T.2.2.2.2.2.1 q) (h2 : R.2.2.2.2.2.2.1 q = T.2.2.2.2.2.2.1 q) : ∀ n, n ≤ S.2.2.2.2.2.1 → fitF S L R d q n = fitF U M T d q n
  | 0, _ => rfl
  | n + 1, hn => by
    obtain ⟨e1, e2, -⟩ := hs.2.2 n (by omega)
    rw [fitF, fitF, fitF_cg hs hl hd h1 h2 n (by omega), h1, h2, e1, e2, accOn_cg hl hd]
theorem cstF_cg {f g : Nat → Int32} (x : Int32) : ∀ n, (∀ i, i < n → f i = g i) → cstF f x n = cstF g x n
  | 0, _ => rfl
  | n + 1, h => by rw [cstF, cstF, cstF_cg x n (fun i hi => h i (by omega)), h n (by omega)]
theorem carO_cg {R T : RT} (hr : rAg R T) {f g : Nat → Int32} {x : Int32} {r : Nat} (hrr : r < R.2.2.2.2.2.2.2) (h : ∀ q, r * 3 ≤ q → q < r * 3 + rpN R r → f q = g q) : carO R f x r = carO T g x r := by
  unfold carO
  rw [← rpN_cg hr hrr]
  exact allF_cg _ _ (fun q h1 h2 => by rw [h q h1 h2])
/-- judgments on both sides -/
def cAg (C E : CT) : Prop := C.2.2.2.2.2.2.2 = E.2.2.2.2.2.2.2 ∧ ∀ i, i < C.2.2.2.2.2.2.2 → C.1 i = E.1 i ∧ C.2.1 i = E.2.1 i ∧ C.2.2.1 i = E.2.2.1 i ∧ C.2.2.2.1 i = E.2.2.2.1 i ∧ C.2.2.2.2.1 i = E.2.2.2.2.1 i ∧ C.2.2.2.2.2.1 i = E.2.2.2.2.2.1 i
theorem bndV_cg {C E : CT} {L M : LT} (hc : cAg C E) (hl : lAg L M) {on m ld d : Int32} (hd : d ≤ 999) : bndV C L on m ld d = bndV E M on m ld d := by
  unfold bndV
  rw [← hc.1]
  have e : rulO (bndP C L on m ld d) C.2.2.2.2.2.2.2 = rulO (bndP E M on m ld d) C.2.2.2.2.2.2.2 := rulO_cg _ (fun i hi => by
    obtain ⟨e1, e2, e3, e4, e5, e6⟩ := hc.2 i hi
    unfold bndP
    rw [e1, e2, e3, e4, e6, accOn_cg hl hd])
  rw [← e]
  rcases hr : rulO (bndP C L on m ld d) C.2.2.2.2.2.2.2 with _ | j
  · rfl
  · exact (hc.2 j (rulO_lt hr)).2.2.2.2.1
theorem foldF_inv2 {α : Type} {g : α → Nat → α} (I : α → Prop) : ∀ n s x, I x → (∀ y k, I y → s ≤ k → k < s + n → I (g y k)) → I (foldF g s n x)
  | 0, _, _, h, _ => h
  | n + 1, s, x, h, hg => foldF_inv2 I n (s + 1) (g x s) (hg x s h (Nat.le_refl _) (by omega)) (fun y k hy h1 h2 => hg y k hy (by omega) (by omega))
/-- comings on both sides: the road's days and its being open agree up to 999 -/
theorem cmF_cg {f g : Int32 → Bool} {a : Int32} (h : ∀ d : Int32, d ≤ 999 → f d = g d) : ∀ n (d : Int32), n = (1000 - d.toInt).toNat → cmF f a n d = cmF g a n d
  | 0, _, _ => rfl
  | n + 1, d, hn => by
    have h999 : (999 : Int32).toInt = 999 := by decide
    have hlo := Int32.le_toInt d
    have e1 : (d + 1).toInt = d.toInt + 1 := by
      rw [Int32.toInt_add, show (1 : Int32).toInt = 1 by decide]
      apply Int.bmod_eq_of_le <;> omega
    rw [cmF, cmF, h d (by rw [Int32.le_iff_toInt_le, h999]; omega), cmF_cg h n (d + 1) (by omega)]
theorem mcome_cg {P N : PT} {L M : LT} {R T : RT} (h : pAg P N) (hl : lAg L M) (hr : rAg R T) {p r : Nat} (hp : p < P.2.2.2.2.2.2) (hrr : r < R.2.2.2.2.2.2.2) {mk mo d : Int32} : mcome P L R p r mk mo d = mcome N M T p r mk mo d := by
  unfold mcome
  rw [← (hr.2 r hrr).2.2.1]
  exact cmF_cg (fun d hd => opnW_cg h hl hr hp hrr hd) _ _ rfl

