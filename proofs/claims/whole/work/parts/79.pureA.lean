/-! ===== how many places are reached: bits on one side, coins on the other ===== -/
theorem foldF_ix {α : Type} {g : α → Nat → α} {I : Nat → α → Prop} : ∀ n s x, I s x → (∀ y k, s ≤ k → k < s + n → I k y → I (k + 1) (g y k)) → I (s + n) (foldF g s n x)
  | 0, _, _, h, _ => h
  | n + 1, s, x, h, hg => by
    have := foldF_ix (I := I) n (s + 1) (g x s) (hg x s (Nat.le_refl _) (by omega) h) (fun y k h1 h2 => hg y k (by omega) (by omega))
    rw [show s + (n + 1) = s + 1 + n by omega]
    exact this
theorem foldF_r2 {α β : Type} {g : α → Nat → α} {h : β → Nat → β} {I : Nat → α → β → Prop} : ∀ n s x y, I s x y → (∀ x y k, s ≤ k → k < s + n → I k x y → I (k + 1) (g x k) (h y k)) → I (s + n) (foldF g s n x) (foldF h s n y)
  | 0, _, _, _, h, _ => h
  | n + 1, s, x, y, h0, hg => by
    have := foldF_r2 (I := I) n (s + 1) (g x s) (h y s) (hg x y s (Nat.le_refl _) (by omega) h0) (fun x y k h1 h2 => hg x y k (by omega) (by omega))
    rw [show s + (n + 1) = s + 1 + n by omega]
    exact this
def bdI (n : Nat) (K : Int) (f : Nat → Int32) : Prop := ∀ j, j < n → (f j).toInt = 1000000 ∨ (f j).toInt ≤ K
theorem rx_bd {n a b : Nat} {c : Int32} {f : Nat → Int32} {K : Int} (hf : coI n f) (hc : cnI c) (ha : a < n) (hb : b < n) (h : bdI n K f) (hK : 0 ≤ K) (hK2 : K ≤ 990000) : bdI n (K + 999) (rx a b c f) ∧ ((rx a b c f b).toInt = 1000000 ↔ (f b).toInt = 1000000 ∧ (f a).toInt = 1000000) := by
  have e := rx_b (b := b) hf hc ha
  obtain ⟨h1, h2⟩ := hf a ha
  obtain ⟨h5, h6⟩ := hf b hb
  obtain ⟨h3, h4⟩ := hc
  have ka := h a ha
  have kb := h b hb
  refine ⟨fun j hj => ?_, ?_⟩
  · by_cases ej : j = b
    · subst ej
      rw [e]
      split
      · omega
      · split <;> omega
    · rw [rx_j ej]
      have := h j hj
      omega
  · rw [e]
    split
    · next z => exact ⟨fun y => ⟨y, z⟩, fun y => y.1⟩
    · next z =>
      split
      · exact ⟨fun y => by omega, fun y => absurd y.2 z⟩
      · exact ⟨fun y => by omega, fun y => absurd y.2 z⟩
def prl (n : Nat) (K : Int) (x : Int32) (f : Nat → Int32) : Prop := coI n f ∧ bdI n K f ∧ ∀ j, j < n → bt x j = decide ((f j).toInt ≠ 1000000)
theorem prl_le {n : Nat} {K K' : Int} {x : Int32} {f : Nat → Int32} (h : prl n K x f) (hK : K ≤ K') : prl n K' x f := ⟨h.1, fun j hj => (h.2.1 j hj).elim Or.inl (fun z => Or.inr (Int.le_trans z hK)), h.2.2⟩
theorem prl_one {R : RT} {b : Nat → Bool} {n : Nat} (hre : rEnd R n) (hn : n ≤ 8) (hco : rCn R) {r : Nat} (hr : r < R.2.2.2.2.2.2.2) {K : Int} {x : Int32} {f : Nat → Int32} (hK : 0 ≤ K) (hK2 : K ≤ 900000) (h : prl n K x f) : prl n (K + 2000) (sprOne R b x r) (coS R b f r) := by
  obtain ⟨a, c, h1, h2, ha, hc⟩ := hre r hr
  obtain ⟨p1, p2, p3⟩ := h
  refine ⟨(coS_ok hre hn hco hr p1).1, ?_⟩
  unfold coS
  by_cases hb : b r = true
  · rw [if_pos hb, coinE_rx h1 h2 (by omega) (by omega)]
    have q1 := (rx_ok (b := c) p1 (hco r hr) ha).1
    obtain ⟨b1, b2⟩ := rx_bd p1 (hco r hr) ha hc p2 hK (by omega)
    obtain ⟨b3, b4⟩ := rx_bd q1 (hco r hr) hc ha b1 (by omega) (by omega)
    refine ⟨fun j hj => (b3 j hj).elim Or.inl (fun z => Or.inr (by omega)), fun j hj => ?_⟩
    rw [sprOne_bt h1 h2 (by omega) (by omega), hb, Bool.true_and, p3 j hj, p3 a ha, p3 c hc]
    by_cases ja : a = j
    · subst ja
      by_cases jc : c = a
      · subst jc
        rw [Bool.eq_iff_iff]
        simp only [Bool.or_eq_true, Bool.and_eq_true, decide_eq_true_eq]
        constructor
        · intro z y
          have y1 := b4.mp y
          have y2 := b2.mp y1.1
          rcases z with z | ⟨z | z, -⟩
          · exact z y2.1
          · exact z y2.1
          · exact z y2.1
        · intro z
          refine Or.inl (fun y => z (b4.mpr ⟨b2.mpr ⟨y, y⟩, b2.mpr ⟨y, y⟩⟩))
      · have e1 := rx_j (a := a) (c := R.2.2.2.1 r) (f := f) (fun z : a = c => jc z.symm)
        rw [e1] at b4
        rw [Bool.eq_iff_iff]
        simp only [Bool.or_eq_true, Bool.and_eq_true, decide_eq_true_eq]
        constructor
        · intro z y
          have y1 := b4.mp y
          have y2 := b2.mp y1.2
          rcases z with z | ⟨z | z, -⟩
          · exact z y1.1
          · exact z y1.1
          · exact z y2.1
        · intro z
          by_cases y : (f a).toInt = 1000000
          · refine Or.inr ⟨Or.inr (fun y2 => z (b4.mpr ⟨y, b2.mpr ⟨y2, y⟩⟩)), Or.inl trivial⟩
          · exact Or.inl y
    · rw [rx_j (fun z : j = a => ja z.symm)]
      by_cases jc : c = j
      · subst jc
        rw [Bool.eq_iff_iff]
        simp only [Bool.or_eq_true, Bool.and_eq_true, decide_eq_true_eq]
        constructor
        · intro z y
          have y1 := b2.mp y
          rcases z with z | ⟨z | z, -⟩
          · exact z y1.1
          · exact z y1.2
          · exact z y1.1
        · intro z
          by_cases y : (f c).toInt = 1000000
          · refine Or.inr ⟨Or.inl (fun y2 => z (b2.mpr ⟨y, y2⟩)), Or.inr trivial⟩
          · exact Or.inl y
      · rw [rx_j (fun z : j = c => jc z.symm), decide_eq_false ja, decide_eq_false jc, Bool.or_self, Bool.and_false, Bool.or_false]
  · rw [if_neg hb]
    refine ⟨fun j hj => (p2 j hj).elim Or.inl (fun z => Or.inr (by omega)), fun j hj => ?_⟩
    rw [sprOne_bt h1 h2 (by omega) (by omega), Bool.eq_false_iff.mpr hb, Bool.false_and, Bool.or_false]
    exact p3 j hj
theorem prl_G {R : RT} {b : Nat → Bool} {n : Nat} (hre : rEnd R n) (hn : n ≤ 8) (hco : rCn R) (hrc : R.2.2.2.2.2.2.2 ≤ 16) {K : Int} {x : Int32} {f : Nat → Int32} (hK : 0 ≤ K) (hK2 : K ≤ 800000) (h : prl n K x f) : prl n (K + 32000) (sprG R b x) (coG R b f) := by
  have := foldF_r2 (g := sprOne R b) (h := coS R b) (I := fun k x f => prl n (K + 2000 * (k : Int)) x f) R.2.2.2.2.2.2.2 0 x f (by simpa using h) (fun x f k _ hk hI => by
    have h9 := prl_one (b := b) hre hn hco (r := k) (by omega) (by omega) (by omega) hI
    rw [show K + 2000 * ((k + 1 : Nat) : Int) = K + 2000 * (k : Int) + 2000 by omega]
    exact h9)
  exact prl_le this (by omega)
theorem prl_it {R : RT} {b : Nat → Bool} {n : Nat} (hre : rEnd R n) (hn : n ≤ 8) (hco : rCn R) (hrc : R.2.2.2.2.2.2.2 ≤ 16) : ∀ (k : Nat) (K : Int) (x : Int32) (f : Nat → Int32), 0 ≤ K → K + 32000 * (k : Int) ≤ 800000 → prl n K x f → prl n (K + 32000 * (k : Int)) (itF (sprG R b) k x) (itF (coG R b) k f)
  | 0, K, x, f, _, _, h => by
    show prl n (K + 32000 * ((0 : Nat) : Int)) x f
    simpa using h
  | k + 1, K, x, f, h0, h1, h => by
    have h2 := prl_it (b := b) hre hn hco hrc k (K + 32000) (sprG R b x) (coG R b f) (by omega) (by omega) (prl_G hre hn hco hrc h0 (by omega) h)
    rw [show K + 32000 * ((k + 1 : Nat) : Int) = K + 32000 + 32000 * (k : Int) by omega]
    exact h2
theorem bc_256 : ∀ i : Fin 256, bcI (nI i.val) = nI (cnB (bt (nI i.val)) 8) := by decide +kernel
theorem bcI_bt {x : Int32} (h : sprI 8 x) : bcI x = nI (cnB (bt x) 8) := by
  have e : x.toBitVec = x.toBitVec &&& 255#32 := by
    refine BitVec.eq_of_getLsbD_eq (fun i hi => ?_)
    rw [BitVec.getLsbD_and]
    by_cases hb : x.toBitVec.getLsbD i = true
    · have h8 := h i hb
      have : ∀ j : Fin 8, (255#32).getLsbD j.val = true := by decide
      rw [hb, this ⟨i, h8⟩]
      rfl
    · rw [Bool.eq_false_iff.mpr hb, Bool.false_and]
  have hl : x.toBitVec.toNat < 256 := by
    rw [e, BitVec.toNat_and]
    exact Nat.lt_of_le_of_lt Nat.and_le_right (by decide)
  have ex : x = nI x.toBitVec.toNat := Int32.toBitVec_inj.mp (by
    show x.toBitVec = BitVec.ofNat 32 x.toBitVec.toNat
    rw [BitVec.ofNat_toNat, BitVec.setWidth_eq])
  have := bc_256 ⟨x.toBitVec.toNat, hl⟩
  rw [← ex] at this
  exact this
theorem cnB_more {f : Nat → Bool} {n : Nat} (h : ∀ j, n ≤ j → f j = false) : ∀ k, cnB f (n + k) = cnB f n
  | 0 => rfl
  | k + 1 => by rw [show n + (k + 1) = n + k + 1 by omega, cnB, cnB_more h k, h (n + k) (by omega)]; rfl
theorem rcN_cn (co : Nat → Int32) : ∀ n, rcN co n = cnB (fun j => decide ((co j).toInt ≠ 1000000)) n
  | 0 => rfl
  | n + 1 => by
    rw [rcN, cnB, rcN_cn co n]
    by_cases h : co n = 1000000
    · rw [if_pos h, if_neg (by rw [h]; decide)]
    · have hz : ¬ (co n).toInt = 1000000 := fun z => h (I_eq (z.trans I_N.symm))
      rw [if_neg h, if_pos (decide_eq_true (p := (co n).toInt ≠ 1000000) hz)]
theorem co0 {n x : Nat} (hx : x < n) (hn : n ≤ 8) (f : Nat → Int32) : coI n (upd (zf 1000000 f 8) x 0) ∧ upd (zf 1000000 f 8) x 0 x = 0 ∧ ∀ j, j < n → j ≠ x → upd (zf 1000000 f 8) x 0 j = 1000000 := by
  have h2 : ∀ j, j < n → j ≠ x → upd (zf 1000000 f 8) x 0 j = 1000000 := fun j hj e => by rw [upd_ne e, zf, if_pos (by omega)]
  refine ⟨fun j hj => ?_, upd_eq _ _ _, h2⟩
  by_cases e : j = x
  · subst e; rw [upd_eq, I_0]; omega
  · rw [h2 j hj e, I_N]; omega
/-- the number of places reached -/
theorem reach_eq {R : RT} {b : Nat → Bool} {n x : Nat} (hre : rEnd R n) (hn : n ≤ 8) (hco : rCn R) (hrc : R.2.2.2.2.2.2.2 ≤ 16) (hx : x < n) (co : Nat → Int32) : bcI (sprF R b n (nI x)) = nI (rcN (coinR R b 8 (upd (zf 1000000 co 8) x 0)) n) := by
  rw [← sprR_rest hre hn hx, sprR_it, coinR_it, rcN_cn]
  obtain ⟨s1, s2⟩ := sprI_0 hx hn
  obtain ⟨c1, c2, c3⟩ := co0 hx hn co
  have p0 : prl n 0 ((1 : Int32) <<< (nI x &&& 31)) (upd (zf 1000000 co 8) x 0) := ⟨c1, fun j hj => by
      by_cases e : j = x
      · subst e; rw [c2, I_0]; exact Or.inr (Int.le_refl _)
      · rw [c3 j hj e, I_N]; exact Or.inl rfl, fun j hj => by
      rw [bt_shl (by omega)]
      by_cases e : x = j
      · subst e; rw [c2, I_0]; simp
      · rw [c3 j hj (fun z => e z.symm), I_N, decide_eq_false e]; simp⟩
  have p8 := prl_it (b := b) hre hn hco hrc 8 0 _ _ (Int.le_refl _) (by omega) p0
  have hI : sprI n (itF (sprG R b) 8 ((1 : Int32) <<< (nI x &&& 31))) := itF_inv (I := sprI n) (fun y hy => (sprG_up hre hn hy).1) 8 _ s1
  rw [bcI_bt (fun j hj => by have := hI j hj; omega)]
  congr 1
  have h8 := cnB_more (f := bt (itF (sprG R b) 8 ((1 : Int32) <<< (nI x &&& 31)))) (n := n) (fun j hj => Bool.eq_false_iff.mpr (fun z => by have := hI j z; omega)) (8 - n)
  rw [show n + (8 - n) = 8 by omega] at h8
  rw [h8]
  exact cnB_cg n (fun j hj => p8.2.2 j hj)
/-- both sides -/
theorem coinE_cg2 {R T : RT} {r : Nat} (h1 : R.1 r = T.1 r) (h2 : R.2.1 r = T.2.1 r) (h3 : R.2.2.2.1 r = T.2.2.2.1 r) (f : Nat → Int32) : coinE R f r = coinE T f r := by
  unfold coinE
  rw [h1, h2, h3]
theorem coinR_ag {R T : RT} (hr : rAg R T) {b c : Nat → Bool} (h : ∀ r, r < R.2.2.2.2.2.2.2 → b r = c r) : ∀ k f, coinR R b k f = coinR T c k f
  | 0, _ => rfl
  | k + 1, f => by
    rw [coinR, coinR, ← hr.1, foldF_c2 (f := fun f r => if b r = true then coinE R f r else f) (g := fun f r => if c r = true then coinE T f r else f) _ _ _ (fun y i _ hi => by
      obtain ⟨e1, e2, -, e4, -⟩ := hr.2 i (by omega)
      rw [h i (by omega), coinE_cg2 e1 e2 e4])]
    exact coinR_ag hr h k _
theorem reach_ag {P N : PT} {L M : LT} {R T : RT} (h : pAg P N) (hl : lAg L M) (hr : rAg R T) {p n x : Nat} (hp : p < P.2.2.2.2.2.2) (hre : rEnd R n) (hn : n ≤ 8) (hco : rCn R) (hrc : R.2.2.2.2.2.2.2 ≤ 16) (hx : x < n) {kd of d : Int32} (hd : d ≤ 999) (co : Nat → Int32) :
    rchF L R (metB P L R p d) n x kd of d = nI (rcN (payF N M T p x kd of d co) n) := by
  unfold rchF payF
  rw [reach_eq hre hn hco hrc hx co, coinR_ag hr (fun r hr' => opnW_cg h hl hr hp hr' hd)]
theorem cheap_ag {P N : PT} {L M : LT} {R T : RT} (h : pAg P N) (hl : lAg L M) (hr : rAg R T) {p n x : Nat} (hp : p < P.2.2.2.2.2.2) (hre : rEnd R n) (hn : n ≤ 8) (hco : rCn R) (hx : x < n) {d : Int32} (hd : d ≤ 999) (f co : Nat → Int32) {j : Nat} (hj : j < n) :
    coinsF P L R p n x d f j = payF N M T p x (-1) (-1) d co j := by
  unfold coinsF payF
  rw [← coinR_ag hr (fun r hr' => opnW_cg h hl hr hp hr' hd)]
  rw [coinR_cg hre hn 8 (f := upd (zf 1000000 co 8) x 0) (g := upd (zf 1000000 f 8) x 0) (fun i hi => by
    by_cases e : i = x
    · subst e; rw [upd_eq, upd_eq]
    · rw [upd_ne e, upd_ne e, zf, zf, if_pos hi, if_pos hi]) j (by omega)]
  obtain ⟨c1, c2, c3⟩ := co0 hx hn f
  rw [coinR_it, coinR_it]
  exact (co_rest hre hn hco hx c1 c2 c3 8 (by omega) j hj).symm
theorem boF_cg {f g : Nat → Nat → Int32} {nk no : Nat} {m : Int32} (h : ∀ k o, k < nk → o < no → f k o = g k o) : boF f nk no m = boF g nk no m := by
  unfold boF
  rw [foldF_c2 (g := fun s k => foldF (boOne g k) 0 no s) _ _ _ (fun y k _ hk => foldF_c2 _ _ _ (fun z o _ ho => by unfold boOne; rw [h k o (by omega) (by omega)]))]
/-- least: what carries -/
theorem car_ag {R T : RT} (hr : rAg R T) {f g : Nat → Int32} {n x : Nat} {s y : Int32} (hre : rEnd R n) (hn : n ≤ 8) (hx : x < n) (h : ∀ r, r < R.2.2.2.2.2.2.2 → ∀ q, r * 3 ≤ q → q < r * 3 + rpN R r → f q = g q) : carB R f n s (nI x) y = mcarB T g s (nI x) y := by
  unfold carB mcarB
  rw [← sprR_rest hre hn hx, sprR_cg hr (c := carO T g s) (fun r hr' => carO_cg hr hr' (h r hr'))]
  generalize sprR T (carO T g s) 8 ((1 : Int32) <<< (nI x &&& 31)) >>> (y &&& 31) = z
  rcases bit01 z with e | e
  · rw [e]; decide
  · rw [e]; decide

