/-- the reference: its book; clauses, words, the quarrels, pick, best, how many quarrels -/
def mbookW (o : Nat) (B : BT) (R : RT) (L : LT) (G : GT) : List q_C := [.inr (12, [.ref (o + 1), .ref (o + 2), .ref (o + 3), .ref (o + 4), .int (nI B.2.2.2.2), .int (nI R.2.2.2.2.2.2.2), .int (nI L.2.2.2.2.2.2.2), .int (nI G.2.2.2.2.2.2.2.2), .ref (o + 5), .ref (o + 6), .ref (o + 7), .ref (o + 8), .ref (o + 9), .ref (o + 10), .ref (o + 11), .ref (o + 12), .ref (o + 13), .ref (o + 14), .ref (o + 15), .ref (o + 16), .ref (o + 17), .ref (o + 18), .ref (o + 19), .ref (o + 20), .ref (o + 21), .ref (o + 22), .ref (o + 23), .ref (o + 24), .ref (o + 25)]), .inl (2, 25, .inr B.2.1), .inl (1, 25, .inl B.2.2.1), .inl (1, 25, .inl B.2.2.2.1), .inl (1, 4, .inl B.1), .inl (1, 16, .inl R.1), .inl (1, 16, .inl R.2.1), .inl (1, 16, .inl R.2.2.1), .inl (1, 16, .inl R.2.2.2.1), .inl (1, 16, .inl R.2.2.2.2.1), .inl (1, 48, .inl R.2.2.2.2.2.1), .inl (1, 48, .inl R.2.2.2.2.2.2.1), .inl (1, 24, .inl L.1), .inl (1, 24, .inl L.2.1), .inl (1, 24, .inl L.2.2.1), .inl (1, 24, .inl L.2.2.2.2.1), .inl (1, 24, .inl L.2.2.2.2.2.1), .inl (1, 24, .inl L.2.2.2.2.2.2.1), .inl (3, 24, .inl L.2.2.2.1), .inl (1, 12, .inl G.1), .inl (1, 12, .inl G.2.1), .inl (1, 12, .inl G.2.2.1), .inl (1, 12, .inl G.2.2.2.1), .inl (1, 36, .inl G.2.2.2.2.1), .inl (1, 36, .inl G.2.2.2.2.2.1), .inl (1, 36, .inl G.2.2.2.2.2.2.1)]
abbrev VT : Type := (Nat → Int32) × (Nat → Int32) × (Nat → Int32) × (Nat → Int32) × (Nat → Int32) × (Nat → Int32) × Nat
/-- the bare object -/
def modelO (th : Int32) (tr : Int32) (wh : Int32) (fa : Int32) (ta : Int32) (sz : Int32) (ix : Int32) (so : Int32) (pl : Int32) (nu : Int32) (wd : Int64) (td : Int32) (pn : Int32) (mk : Int32) (mo : Int32) (sn : Int32) (bo : Int32) (jn : Int32) (qn : Int32) (cn : Int32) (bk fr st : Value) : List q_C := [.inr (14, [.int th, .int tr, .int wh, .int fa, bk, fr, st, tk 0 7, .int ta, .int sz, .int ix, .int so, .int pl, .int nu, .long wd, .int td, .int pn, tk 0 17, tk 0 18, tk 0 19, tk 0 20, tk 0 21, tk 0 22, tk 0 23, .int mk, .int mo, tk 0 26, tk 0 27, tk 0 28, .int sn, .int bo, tk 0 31, tk 0 32, tk 0 33, tk 0 34, .int jn, tk 0 36, tk 0 37, tk 0 38, tk 0 39, tk 0 40, tk 0 41, .int qn, tk 0 43, tk 0 44, tk 0 45, tk 0 46, tk 0 47, tk 0 48, .int cn, tk 0 50, tk 0 51, tk 0 52])]
/-- the object and its book -/
def modelQ (th : Int32) (tr : Int32) (wh : Int32) (fa : Int32) (ta : Int32) (sz : Int32) (ix : Int32) (so : Int32) (pl : Int32) (nu : Int32) (wd : Int64) (td : Int32) (pn : Int32) (mk : Int32) (mo : Int32) (sn : Int32) (bo : Int32) (jn : Int32) (qn : Int32) (cn : Int32) (B : BT) (R : RT) (L : LT) (G : GT) : List q_C := [.inr (14, [.int th, .int tr, .int wh, .int fa, .ref 1, tk 0 5, tk 0 6, tk 0 7, .int ta, .int sz, .int ix, .int so, .int pl, .int nu, .long wd, .int td, .int pn, tk 0 17, tk 0 18, tk 0 19, tk 0 20, tk 0 21, tk 0 22, tk 0 23, .int mk, .int mo, tk 0 26, tk 0 27, tk 0 28, .int sn, .int bo, tk 0 31, tk 0 32, tk 0 33, tk 0 34, .int jn, tk 0 36, tk 0 37, tk 0 38, tk 0 39, tk 0 40, tk 0 41, .int qn, tk 0 43, tk 0 44, tk 0 45, tk 0 46, tk 0 47, tk 0 48, .int cn, tk 0 50, tk 0 51, tk 0 52])] ++ mbookW 1 B R L G
/-- the object and its tape -/
def modelU (th : Int32) (tr : Int32) (wh : Int32) (fa : Int32) (ta : Int32) (sz : Int32) (ix : Int32) (so : Int32) (pl : Int32) (nu : Int32) (wd : Int64) (td : Int32) (pn : Int32) (mk : Int32) (mo : Int32) (sn : Int32) (bo : Int32) (jn : Int32) (qn : Int32) (cn : Int32) (bk fr : Value) (tx : Nat → Int32) : List q_C := [.inr (14, [.int th, .int tr, .int wh, .int fa, bk, fr, tk 0 6, .ref 1, .int ta, .int sz, .int ix, .int so, .int pl, .int nu, .long wd, .int td, .int pn, tk 0 17, tk 0 18, tk 0 19, tk 0 20, tk 0 21, tk 0 22, tk 0 23, .int mk, .int mo, tk 0 26, tk 0 27, tk 0 28, .int sn, .int bo, tk 0 31, tk 0 32, tk 0 33, tk 0 34, .int jn, tk 0 36, tk 0 37, tk 0 38, tk 0 39, tk 0 40, tk 0 41, .int qn, tk 0 43, tk 0 44, tk 0 45, tk 0 46, tk 0 47, tk 0 48, .int cn, tk 0 50, tk 0 51, tk 0 52]), .inl (0, 700, .inl tx)]
/-- the object, its tape, its stop and the book that is read -/
def modelT (th : Int32) (tr : Int32) (wh : Int32) (fa : Int32) (ta : Int32) (sz : Int32) (ix : Int32) (so : Int32) (pl : Int32) (nu : Int32) (wd : Int64) (td : Int32) (pn : Int32) (mk : Int32) (mo : Int32) (sn : Int32) (bo : Int32) (jn : Int32) (qn : Int32) (cn : Int32) (bk : Value) (tx : Nat → Int32) (sk sp : Int32) (B : BT) (R : RT) (L : LT) (G : GT) : List q_C := [.inr (14, [.int th, .int tr, .int wh, .int fa, bk, .ref 3, .ref 2, .ref 1, .int ta, .int sz, .int ix, .int so, .int pl, .int nu, .long wd, .int td, .int pn, tk 0 17, tk 0 18, tk 0 19, tk 0 20, tk 0 21, tk 0 22, tk 0 23, .int mk, .int mo, tk 0 26, tk 0 27, tk 0 28, .int sn, .int bo, tk 0 31, tk 0 32, tk 0 33, tk 0 34, .int jn, tk 0 36, tk 0 37, tk 0 38, tk 0 39, tk 0 40, tk 0 41, .int qn, tk 0 43, tk 0 44, tk 0 45, tk 0 46, tk 0 47, tk 0 48, .int cn, tk 0 50, tk 0 51, tk 0 52]), .inl (0, 700, .inl tx), .inr (13, [.null, .null, .null, .null, .null, .int 0, .int sk, .int sp])] ++ mbookW 3 B R L G
/-- the whole object, without and with a book -/
def modelA (o : Nat) (bk fr st : Value) (th : Int32) (tr : Int32) (wh : Int32) (fa : Int32) (ta : Nat) (sz : Int32) (ix : Int32) (so : Int32) (pl : Int32) (nu : Int32) (wd : Int64) (td : Int32) (mk : Int32) (mo : Int32) (tx : Nat → Int32) (P : PT) (D : DT) (ea : Nat → Int32) (pa : Nat → Int32) (co : Nat → Int32) (S : ST) (Cc : CT) (V : VT) (ba : Nat → Int32) : List q_C := [.inr (14, [.int th, .int tr, .int wh, .int fa, bk, fr, st, .ref (o + 1), .int (nI ta), .int sz, .int ix, .int so, .int pl, .int nu, .long wd, .int td, .int (nI P.2.2.2.2.2.2), .ref (o + 2), .ref (o + 3), .ref (o + 4), .ref (o + 5), .ref (o + 6), .ref (o + 7), .ref (o + 8), .int mk, .int mo, .ref (o + 9), .ref (o + 10), .ref (o + 11), .int (nI S.2.2.2.2.2.1), .int S.2.2.2.2.2.2, .ref (o + 12), .ref (o + 13), .ref (o + 14), .ref (o + 15), .int (nI Cc.2.2.2.2.2.2.2), .ref (o + 16), .ref (o + 17), .ref (o + 18), .ref (o + 19), .ref (o + 20), .ref (o + 21), .int (nI V.2.2.2.2.2.2), .ref (o + 22), .ref (o + 23), .ref (o + 24), .ref (o + 25), .ref (o + 26), .ref (o + 27), .int (nI D.2.2.2), .ref (o + 28), .ref (o + 29), .ref (o + 30)]), .inl (0, 700, .inl tx), .inl (1, 30, .inl P.1), .inl (1, 30, .inl P.2.1), .inl (1, 240, .inl P.2.2.1), .inl (1, 240, .inl P.2.2.2.1), .inl (1, 240, .inl P.2.2.2.2.1), .inl (1, 240, .inl P.2.2.2.2.2.1), .inl (2, 30, .inr D.2.2.1), .inl (1, 8, .inl ea), .inl (3, 8, .inl pa), .inl (1, 8, .inl co), .inl (1, 9, .inl S.1), .inl (1, 9, .inl S.2.1), .inl (1, 9, .inl S.2.2.1), .inl (1, 48, .inl S.2.2.2.1), .inl (1, 20, .inl Cc.1), .inl (1, 20, .inl Cc.2.1), .inl (1, 20, .inl Cc.2.2.1), .inl (1, 20, .inl Cc.2.2.2.1), .inl (1, 20, .inl Cc.2.2.2.2.1), .inl (1, 20, .inl Cc.2.2.2.2.2.1), .inl (1, 9, .inl V.1), .inl (1, 36, .inl V.2.1), .inl (1, 20, .inl V.2.2.1), .inl (1, 20, .inl V.2.2.2.1), .inl (1, 9, .inl V.2.2.2.2.1), .inl (1, 9, .inl V.2.2.2.2.2.1), .inl (1, 10, .inl D.1), .inl (1, 10, .inl D.2.1), .inl (1, 8, .inl ba)]
def modelN (o : Nat) (fr st : Value) (th : Int32) (tr : Int32) (wh : Int32) (fa : Int32) (ta : Nat) (sz : Int32) (ix : Int32) (so : Int32) (pl : Int32) (nu : Int32) (wd : Int64) (td : Int32) (mk : Int32) (mo : Int32) (tx : Nat → Int32) (P : PT) (D : DT) (ea : Nat → Int32) (pa : Nat → Int32) (co : Nat → Int32) (S : ST) (Cc : CT) (V : VT) (ba : Nat → Int32) : List q_C := modelA o .null fr st th tr wh fa ta sz ix so pl nu wd td mk mo tx P D ea pa co S Cc V ba
def modelW (o : Nat) (fr st : Value) (th : Int32) (tr : Int32) (wh : Int32) (fa : Int32) (ta : Nat) (sz : Int32) (ix : Int32) (so : Int32) (pl : Int32) (nu : Int32) (wd : Int64) (td : Int32) (mk : Int32) (mo : Int32) (tx : Nat → Int32) (P : PT) (D : DT) (ea : Nat → Int32) (pa : Nat → Int32) (co : Nat → Int32) (S : ST) (Cc : CT) (V : VT) (ba : Nat → Int32) (B : BT) (R : RT) (L : LT) (G : GT) : List q_C := modelA o (.ref (o + 31)) fr st th tr wh fa ta sz ix so pl nu wd td mk mo tx P D ea pa co S Cc V ba ++ mbookW (o + 31) B R L G

def tX14_in : List q_I := [(0, .iload_n 0, 1, 0, 0), (1, .iload_n 1, 1, 0, 0), (2, .if_icmp .lt 12, 3, 0, 14), (5, .iload_n 0, 1, 0, 0), (6, .iload_n 2, 1, 0, 0), (7, .if_icmp .gt 7, 3, 0, 14), (10, .iconst 1, 1, 1, 0), (11, .goto 4, 3, 0, 15), (14, .iconst 0, 1, 0, 0), (15, .ireturn, 1, 0, 0)]
theorem tX14_in_ok : (tX14_in.all (q_okI cX14_in)) = true := by decide +kernel

abbrev fdX14_in : List (Nat ⊕ (Nat × Nat)) := []
def inB (x a b : Int32) : Bool := decide (a ≤ x ∧ x ≤ b)
def spX14_in : q_P := fun a w K => ∃ (x y z : Int32), w = [] ∧ a = [.int x, .int y, .int z] ∧ K (.inl (some (.int (bI (inB x y z))))) []
abbrev csX14_in : q_S := (3, 99, 0, 3, 0, 0, fdX14_in, spX14_in)
def EX14_in : q_E := (tX14_in, [], 3, flX14, [], [], [], [], [], [], 0, 0, 0, (some .boolean), [], [], 0, 0)
theorem okX14_in (l : Launch) : q_Eok l RX14 cX14_in EX14_in := ⟨tX14_in_ok, flX14_ok, q_nil, q_nil, q_nil, q_nil, q_nil, q_nil, (fun h => absurd h (by decide))⟩
set_option maxRecDepth 100000 in
set_option maxHeartbeats 4000000 in
theorem ctX14_in (l : Launch) : q_CT l yX14_in (.code yX14_in cX14_in 3 (some .boolean)) 0 0 0 spX14_in := by
  refine q_ct_of EX14_in (by decide +kernel) (okX14_in l) rfl rfl rfl rfl rfl q_nil (fun ci h => by cases h) rfl ?_
  intro a w K h
  obtain ⟨x, y, z, rfl, rfl, hK⟩ := h
  refine ⟨Nat.le_of_ble_eq_true rfl, fun C hC => hC _ _ _ _ _ _ ?_⟩
  refine And.intro (fun c => ⟨rfl, ?_⟩) (fun c => And.intro (fun c2 => ⟨rfl, ?_⟩) (fun c2 => ⟨rfl, ?_⟩))
  · rw [inB, bI_f (fun z => absurd c (Int32.not_lt.mpr z.1))] at hK; exact hK
  · rw [inB, bI_f (fun z => absurd c2 (Int32.not_lt.mpr z.2))] at hK; exact hK
  · rw [inB, bI_t ⟨Int32.not_lt.mp c, Int32.not_lt.mp c2⟩] at hK; exact hK
def tX14_isDay : List q_I := [(0, .iload_n 0, 1, 0, 0), (1, .iconst 0, 1, 0, 0), (2, .sipush 999, 3, 999, 0), (5, .invokestatic 207, 3, 0, 0), (8, .ireturn, 1, 0, 0)]
theorem tX14_isDay_ok : (tX14_isDay.all (q_okI cX14_isDay)) = true := by decide +kernel

abbrev fdX14_isDay : List (Nat ⊕ (Nat × Nat)) := []
def spX14_isDay : q_P := fun a w K => ∃ (x : Int32), w = [] ∧ a = [.int x] ∧ K (.inl (some (.int (bI (dayB x))))) []
abbrev csX14_isDay : q_S := (1, 99, 1, 1, 0, 0, fdX14_isDay, spX14_isDay)
theorem coX14_207 (l : Launch) : q_CO l RX14 207 csX14_in := ⟨yX14_in, cX14_in, (some .boolean), 3, ⟨by decide +kernel, by decide +kernel, by decide +kernel⟩, q_G_i 17 (by decide +kernel) rfl, Or.inr (Or.inr (Or.inr ⟨rfl, rfl, q_G_i 1645 (by decide +kernel) rfl, q_G_i 1646 (by decide +kernel) rfl, Or.inl ⟨q_G_i 1647 (by decide +kernel) rfl, ctX14_in l⟩⟩))⟩
def EX14_isDay : q_E := (tX14_isDay, [], 1, flX14, [(207, csX14_in)], [], [], [], [], [], 1, 0, 0, (some .boolean), [], [], 0, 0)
theorem okX14_isDay (l : Launch) : q_Eok l RX14 cX14_isDay EX14_isDay := ⟨tX14_isDay_ok, flX14_ok, List.forall_mem_cons.mpr ⟨(coX14_207 l), q_nil⟩, q_nil, q_nil, q_nil, q_nil, q_nil, (fun h => absurd h (by decide))⟩
set_option maxRecDepth 100000 in
set_option maxHeartbeats 4000000 in
theorem ctX14_isDay (l : Launch) : q_CT l yX14_isDay (.code yX14_isDay cX14_isDay 1 (some .boolean)) 1 0 0 spX14_isDay := by
  refine q_ct_of EX14_isDay (by decide +kernel) (okX14_isDay l) rfl rfl rfl rfl rfl q_nil (fun ci h => by cases h) rfl ?_
  intro a w K h
  obtain ⟨x, rfl, rfl, hK⟩ := h
  refine ⟨Nat.le_of_ble_eq_true rfl, fun C hC => hC _ _ _ _ _ _ ?_⟩
  exact ⟨x, 0, 999, rfl, rfl, bI_nar _, hK⟩
def tX14_isLetter : List q_I := [(0, .iload_n 0, 1, 0, 0), (1, .bipush 97, 2, 97, 0), (3, .if_icmp .lt 13, 3, 0, 16), (6, .iload_n 0, 1, 0, 0), (7, .bipush 122, 2, 122, 0), (9, .if_icmp .gt 7, 3, 0, 16), (12, .iconst 1, 1, 1, 0), (13, .goto 4, 3, 0, 17), (16, .iconst 0, 1, 0, 0), (17, .ireturn, 1, 0, 0)]
theorem tX14_isLetter_ok : (tX14_isLetter.all (q_okI cX14_isLetter)) = true := by decide +kernel

abbrev fdX14_isLetter : List (Nat ⊕ (Nat × Nat)) := []
def spX14_isLetter : q_P := fun a w K => ∃ (x : Int32), w = [] ∧ a = [.int x] ∧ K (.inl (some (.int (bI (inB x 97 122))))) []
abbrev csX14_isLetter : q_S := (1, 99, 0, 1, 0, 0, fdX14_isLetter, spX14_isLetter)
def EX14_isLetter : q_E := (tX14_isLetter, [], 1, flX14, [], [], [], [], [], [], 0, 0, 0, (some .boolean), [], [], 0, 0)
theorem okX14_isLetter (l : Launch) : q_Eok l RX14 cX14_isLetter EX14_isLetter := ⟨tX14_isLetter_ok, flX14_ok, q_nil, q_nil, q_nil, q_nil, q_nil, q_nil, (fun h => absurd h (by decide))⟩
set_option maxRecDepth 100000 in
set_option maxHeartbeats 4000000 in
theorem ctX14_isLetter (l : Launch) : q_CT l yX14_isLetter (.code yX14_isLetter cX14_isLetter 1 (some .boolean)) 0 0 0 spX14_isLetter := by
  refine q_ct_of EX14_isLetter (by decide +kernel) (okX14_isLetter l) rfl rfl rfl rfl rfl q_nil (fun ci h => by cases h) rfl ?_
  intro a w K h
  obtain ⟨x, rfl, rfl, hK⟩ := h
  refine ⟨Nat.le_of_ble_eq_true rfl, fun C hC => hC _ _ _ _ _ _ ?_⟩
  refine And.intro (fun c => ⟨rfl, ?_⟩) (fun c => And.intro (fun c2 => ⟨rfl, ?_⟩) (fun c2 => ⟨rfl, ?_⟩))
  · rw [inB, bI_f (fun z => absurd c (Int32.not_lt.mpr z.1))] at hK; exact hK
  · rw [inB, bI_f (fun z => absurd c2 (Int32.not_lt.mpr z.2))] at hK; exact hK
  · rw [inB, bI_t ⟨Int32.not_lt.mp c, Int32.not_lt.mp c2⟩] at hK; exact hK
def tX14_isDigit : List q_I := [(0, .iload_n 0, 1, 0, 0), (1, .bipush 48, 2, 48, 0), (3, .if_icmp .lt 13, 3, 0, 16), (6, .iload_n 0, 1, 0, 0), (7, .bipush 57, 2, 57, 0), (9, .if_icmp .gt 7, 3, 0, 16), (12, .iconst 1, 1, 1, 0), (13, .goto 4, 3, 0, 17), (16, .iconst 0, 1, 0, 0), (17, .ireturn, 1, 0, 0)]
theorem tX14_isDigit_ok : (tX14_isDigit.all (q_okI cX14_isDigit)) = true := by decide +kernel

abbrev fdX14_isDigit : List (Nat ⊕ (Nat × Nat)) := []
def spX14_isDigit : q_P := fun a w K => ∃ (x : Int32), w = [] ∧ a = [.int x] ∧ K (.inl (some (.int (bI (inB x 48 57))))) []
abbrev csX14_isDigit : q_S := (1, 99, 0, 1, 0, 0, fdX14_isDigit, spX14_isDigit)
def EX14_isDigit : q_E := (tX14_isDigit, [], 1, flX14, [], [], [], [], [], [], 0, 0, 0, (some .boolean), [], [], 0, 0)
theorem okX14_isDigit (l : Launch) : q_Eok l RX14 cX14_isDigit EX14_isDigit := ⟨tX14_isDigit_ok, flX14_ok, q_nil, q_nil, q_nil, q_nil, q_nil, q_nil, (fun h => absurd h (by decide))⟩
set_option maxRecDepth 100000 in
set_option maxHeartbeats 4000000 in
theorem ctX14_isDigit (l : Launch) : q_CT l yX14_isDigit (.code yX14_isDigit cX14_isDigit 1 (some .boolean)) 0 0 0 spX14_isDigit := by
  refine q_ct_of EX14_isDigit (by decide +kernel) (okX14_isDigit l) rfl rfl rfl rfl rfl q_nil (fun ci h => by cases h) rfl ?_
  intro a w K h
  obtain ⟨x, rfl, rfl, hK⟩ := h
  refine ⟨Nat.le_of_ble_eq_true rfl, fun C hC => hC _ _ _ _ _ _ ?_⟩
  refine And.intro (fun c => ⟨rfl, ?_⟩) (fun c => And.intro (fun c2 => ⟨rfl, ?_⟩) (fun c2 => ⟨rfl, ?_⟩))
  · rw [inB, bI_f (fun z => absurd c (Int32.not_lt.mpr z.1))] at hK; exact hK
  · rw [inB, bI_f (fun z => absurd c2 (Int32.not_lt.mpr z.2))] at hK; exact hK
  · rw [inB, bI_t ⟨Int32.not_lt.mp c, Int32.not_lt.mp c2⟩] at hK; exact hK
def tX14_refused : List q_I := [(0, .aload_n 0, 1, 0, 0), (1, .iload_n 1, 1, 0, 0), (2, .putfield 126, 3, 0, 0), (5, .aload_n 0, 1, 0, 0), (6, .iconst (-1), 1, (-1), 0), (7, .putfield 9, 3, 0, 0), (10, .iconst (-1), 1, (-1), 0), (11, .ireturn, 1, 0, 0)]
theorem tX14_refused_ok : (tX14_refused.all (q_okI cX14_refused)) = true := by decide +kernel

abbrev fdX14_refused : List (Nat ⊕ (Nat × Nat)) := [.inl 0]
def spX14_refused : q_P := fun a w K => ∃ (th : Int32) (tr : Int32) (wh : Int32) (fa : Int32) (ta : Int32) (sz : Int32) (ix : Int32) (so : Int32) (pl : Int32) (nu : Int32) (wd : Int64) (td : Int32) (pn : Int32) (mk : Int32) (mo : Int32) (sn : Int32) (bo : Int32) (jn : Int32) (qn : Int32) (cn : Int32) (bk : Value) (fr : Value) (st : Value) (x : Int32), w = (modelO th tr wh fa ta sz ix so pl nu wd td pn mk mo sn bo jn qn cn bk fr st) ∧ a = [.ref 0, .int x] ∧ K (.inl (some (.int (-1)))) (modelO th (x) (-1) fa ta sz ix so pl nu wd td pn mk mo sn bo jn qn cn bk fr st)
abbrev csX14_refused : q_S := (2, 14, 0, 2, 0, 0, fdX14_refused, spX14_refused)
def EX14_refused : q_E := (tX14_refused, [], 2, flX14, [], [], [], [], [], [], 0, 0, 0, (some .int), [], [], 0, 0)
theorem okX14_refused (l : Launch) : q_Eok l RX14 cX14_refused EX14_refused := ⟨tX14_refused_ok, flX14_ok, q_nil, q_nil, q_nil, q_nil, q_nil, q_nil, (fun h => absurd h (by decide))⟩
set_option maxRecDepth 100000 in
set_option maxHeartbeats 4000000 in
theorem ctX14_refused (l : Launch) : q_CT l yX14_refused (.code yX14_refused cX14_refused 2 (some .int)) 0 0 0 spX14_refused := by
  refine q_ct_of EX14_refused (by decide +kernel) (okX14_refused l) rfl rfl rfl rfl rfl q_nil (fun ci h => by cases h) rfl ?_
  intro a w K h
  obtain ⟨th, tr, wh, fa, ta, sz, ix, so, pl, nu, wd, td, pn, mk, mo, sn, bo, jn, qn, cn, bk, fr, st, x, rfl, rfl, hK⟩ := h
  refine ⟨Nat.le_of_ble_eq_true rfl, fun C hC => hC _ _ _ _ _ _ ?_⟩
  exact hK
def tX14_denied : List q_I := [(0, .aload_n 0, 1, 0, 0), (1, .iload_n 1, 1, 0, 0), (2, .putfield 126, 3, 0, 0), (5, .aload_n 0, 1, 0, 0), (6, .iconst (-1), 1, (-1), 0), (7, .putfield 9, 3, 0, 0), (10, .iconst 0, 1, 0, 0), (11, .ireturn, 1, 0, 0)]
theorem tX14_denied_ok : (tX14_denied.all (q_okI cX14_denied)) = true := by decide +kernel

abbrev fdX14_denied : List (Nat ⊕ (Nat × Nat)) := [.inl 0]
def spX14_denied : q_P := fun a w K => ∃ (th : Int32) (tr : Int32) (wh : Int32) (fa : Int32) (ta : Int32) (sz : Int32) (ix : Int32) (so : Int32) (pl : Int32) (nu : Int32) (wd : Int64) (td : Int32) (pn : Int32) (mk : Int32) (mo : Int32) (sn : Int32) (bo : Int32) (jn : Int32) (qn : Int32) (cn : Int32) (bk : Value) (fr : Value) (st : Value) (x : Int32), w = (modelO th tr wh fa ta sz ix so pl nu wd td pn mk mo sn bo jn qn cn bk fr st) ∧ a = [.ref 0, .int x] ∧ K (.inl (some (.int 0))) (modelO th (x) (-1) fa ta sz ix so pl nu wd td pn mk mo sn bo jn qn cn bk fr st)
abbrev csX14_denied : q_S := (2, 14, 0, 2, 0, 0, fdX14_denied, spX14_denied)
def EX14_denied : q_E := (tX14_denied, [], 2, flX14, [], [], [], [], [], [], 0, 0, 0, (some .boolean), [], [], 0, 0)
theorem okX14_denied (l : Launch) : q_Eok l RX14 cX14_denied EX14_denied := ⟨tX14_denied_ok, flX14_ok, q_nil, q_nil, q_nil, q_nil, q_nil, q_nil, (fun h => absurd h (by decide))⟩
set_option maxRecDepth 100000 in
set_option maxHeartbeats 4000000 in
theorem ctX14_denied (l : Launch) : q_CT l yX14_denied (.code yX14_denied cX14_denied 2 (some .boolean)) 0 0 0 spX14_denied := by
  refine q_ct_of EX14_denied (by decide +kernel) (okX14_denied l) rfl rfl rfl rfl rfl q_nil (fun ci h => by cases h) rfl ?_
  intro a w K h
  obtain ⟨th, tr, wh, fa, ta, sz, ix, so, pl, nu, wd, td, pn, mk, mo, sn, bo, jn, qn, cn, bk, fr, st, x, rfl, rfl, hK⟩ := h
  refine ⟨Nat.le_of_ble_eq_true rfl, fun C hC => hC _ _ _ _ _ _ ?_⟩
  exact ⟨rfl, hK⟩
def tX14_done : List q_I := [(0, .aload_n 0, 1, 0, 0), (1, .iconst 0, 1, 0, 0), (2, .putfield 126, 3, 0, 0), (5, .aload_n 0, 1, 0, 0), (6, .iconst (-1), 1, (-1), 0), (7, .putfield 9, 3, 0, 0), (10, .iload_n 1, 1, 0, 0), (11, .ireturn, 1, 0, 0)]
theorem tX14_done_ok : (tX14_done.all (q_okI cX14_done)) = true := by decide +kernel

abbrev fdX14_done : List (Nat ⊕ (Nat × Nat)) := [.inl 0]
def spX14_done : q_P := fun a w K => ∃ (th : Int32) (tr : Int32) (wh : Int32) (fa : Int32) (ta : Int32) (sz : Int32) (ix : Int32) (so : Int32) (pl : Int32) (nu : Int32) (wd : Int64) (td : Int32) (pn : Int32) (mk : Int32) (mo : Int32) (sn : Int32) (bo : Int32) (jn : Int32) (qn : Int32) (cn : Int32) (bk : Value) (fr : Value) (st : Value) (x : Int32), w = (modelO th tr wh fa ta sz ix so pl nu wd td pn mk mo sn bo jn qn cn bk fr st) ∧ a = [.ref 0, .int x] ∧ K (.inl (some (.int x))) (modelO th (0) (-1) fa ta sz ix so pl nu wd td pn mk mo sn bo jn qn cn bk fr st)
abbrev csX14_done : q_S := (2, 14, 0, 2, 0, 0, fdX14_done, spX14_done)
def EX14_done : q_E := (tX14_done, [], 2, flX14, [], [], [], [], [], [], 0, 0, 0, (some .int), [], [], 0, 0)
theorem okX14_done (l : Launch) : q_Eok l RX14 cX14_done EX14_done := ⟨tX14_done_ok, flX14_ok, q_nil, q_nil, q_nil, q_nil, q_nil, q_nil, (fun h => absurd h (by decide))⟩
set_option maxRecDepth 100000 in
set_option maxHeartbeats 4000000 in
theorem ctX14_done (l : Launch) : q_CT l yX14_done (.code yX14_done cX14_done 2 (some .int)) 0 0 0 spX14_done := by
  refine q_ct_of EX14_done (by decide +kernel) (okX14_done l) rfl rfl rfl rfl rfl q_nil (fun ci h => by cases h) rfl ?_
  intro a w K h
  obtain ⟨th, tr, wh, fa, ta, sz, ix, so, pl, nu, wd, td, pn, mk, mo, sn, bo, jn, qn, cn, bk, fr, st, x, rfl, rfl, hK⟩ := h
  refine ⟨Nat.le_of_ble_eq_true rfl, fun C hC => hC _ _ _ _ _ _ ?_⟩
  exact hK
def tX14_granted : List q_I := [(0, .aload_n 0, 1, 0, 0), (1, .iconst 0, 1, 0, 0), (2, .putfield 126, 3, 0, 0), (5, .aload_n 0, 1, 0, 0), (6, .iconst (-1), 1, (-1), 0), (7, .putfield 9, 3, 0, 0), (10, .iconst 1, 1, 1, 0), (11, .ireturn, 1, 0, 0)]
theorem tX14_granted_ok : (tX14_granted.all (q_okI cX14_granted)) = true := by decide +kernel

abbrev fdX14_granted : List (Nat ⊕ (Nat × Nat)) := [.inl 0]
def spX14_granted : q_P := fun a w K => ∃ (th : Int32) (tr : Int32) (wh : Int32) (fa : Int32) (ta : Int32) (sz : Int32) (ix : Int32) (so : Int32) (pl : Int32) (nu : Int32) (wd : Int64) (td : Int32) (pn : Int32) (mk : Int32) (mo : Int32) (sn : Int32) (bo : Int32) (jn : Int32) (qn : Int32) (cn : Int32) (bk : Value) (fr : Value) (st : Value), w = (modelO th tr wh fa ta sz ix so pl nu wd td pn mk mo sn bo jn qn cn bk fr st) ∧ a = [.ref 0] ∧ K (.inl (some (.int 1))) (modelO th (0) (-1) fa ta sz ix so pl nu wd td pn mk mo sn bo jn qn cn bk fr st)
abbrev csX14_granted : q_S := (1, 14, 0, 1, 0, 0, fdX14_granted, spX14_granted)
def EX14_granted : q_E := (tX14_granted, [], 1, flX14, [], [], [], [], [], [], 0, 0, 0, (some .boolean), [], [], 0, 0)
theorem okX14_granted (l : Launch) : q_Eok l RX14 cX14_granted EX14_granted := ⟨tX14_granted_ok, flX14_ok, q_nil, q_nil, q_nil, q_nil, q_nil, q_nil, (fun h => absurd h (by decide))⟩
set_option maxRecDepth 100000 in
set_option maxHeartbeats 4000000 in
theorem ctX14_granted (l : Launch) : q_CT l yX14_granted (.code yX14_granted cX14_granted 1 (some .boolean)) 0 0 0 spX14_granted := by
  refine q_ct_of EX14_granted (by decide +kernel) (okX14_granted l) rfl rfl rfl rfl rfl q_nil (fun ci h => by cases h) rfl ?_
  intro a w K h
  obtain ⟨th, tr, wh, fa, ta, sz, ix, so, pl, nu, wd, td, pn, mk, mo, sn, bo, jn, qn, cn, bk, fr, st, rfl, rfl, hK⟩ := h
  refine ⟨Nat.le_of_ble_eq_true rfl, fun C hC => hC _ _ _ _ _ _ ?_⟩
  exact ⟨rfl, hK⟩
def tX14_isPerson : List q_I := [(0, .iload_n 1, 1, 0, 0), (1, .ifCond .lt 15, 3, 0, 16), (4, .iload_n 1, 1, 0, 0), (5, .aload_n 0, 1, 0, 0), (6, .getfield 382, 3, 0, 0), (9, .if_icmp .ge 7, 3, 0, 16), (12, .iconst 1, 1, 1, 0), (13, .goto 4, 3, 0, 17), (16, .iconst 0, 1, 0, 0), (17, .ireturn, 1, 0, 0)]
theorem tX14_isPerson_ok : (tX14_isPerson.all (q_okI cX14_isPerson)) = true := by decide +kernel

abbrev fdX14_isPerson : List (Nat ⊕ (Nat × Nat)) := [.inl 0]
def spX14_isPerson : q_P := fun a w K => ∃ (th : Int32) (tr : Int32) (wh : Int32) (fa : Int32) (ta : Int32) (sz : Int32) (ix : Int32) (so : Int32) (pl : Int32) (nu : Int32) (wd : Int64) (td : Int32) (pn : Int32) (mk : Int32) (mo : Int32) (sn : Int32) (bo : Int32) (jn : Int32) (qn : Int32) (cn : Int32) (bk : Value) (fr : Value) (st : Value) (x : Int32), w = (modelO th tr wh fa ta sz ix so pl nu wd td pn mk mo sn bo jn qn cn bk fr st) ∧ a = [.ref 0, .int x] ∧ K (.inl (some (.int (bI (decide (0 ≤ x ∧ x < pn)))))) (modelO th tr wh fa ta sz ix so pl nu wd td pn mk mo sn bo jn qn cn bk fr st)
abbrev csX14_isPerson : q_S := (2, 14, 0, 2, 0, 0, fdX14_isPerson, spX14_isPerson)
def EX14_isPerson : q_E := (tX14_isPerson, [], 2, flX14, [], [], [], [], [], [], 0, 0, 0, (some .boolean), [], [], 0, 0)
theorem okX14_isPerson (l : Launch) : q_Eok l RX14 cX14_isPerson EX14_isPerson := ⟨tX14_isPerson_ok, flX14_ok, q_nil, q_nil, q_nil, q_nil, q_nil, q_nil, (fun h => absurd h (by decide))⟩
set_option maxRecDepth 100000 in
set_option maxHeartbeats 4000000 in
theorem ctX14_isPerson (l : Launch) : q_CT l yX14_isPerson (.code yX14_isPerson cX14_isPerson 2 (some .boolean)) 0 0 0 spX14_isPerson := by
  refine q_ct_of EX14_isPerson (by decide +kernel) (okX14_isPerson l) rfl rfl rfl rfl rfl q_nil (fun ci h => by cases h) rfl ?_
  intro a w K h
  obtain ⟨th, tr, wh, fa, ta, sz, ix, so, pl, nu, wd, td, pn, mk, mo, sn, bo, jn, qn, cn, bk, fr, st, x, rfl, rfl, hK⟩ := h
  refine ⟨Nat.le_of_ble_eq_true rfl, fun C hC => hC _ _ _ _ _ _ ?_⟩
  refine And.intro (fun c => ⟨rfl, ?_⟩) (fun c => And.intro (fun c2 => ⟨rfl, ?_⟩) (fun c2 => ⟨rfl, ?_⟩))
  · rw [bI_f (fun z => Int32.not_le.mpr c z.1)] at hK; exact hK
  · rw [bI_f (fun z => Int32.not_le.mpr z.2 c2)] at hK; exact hK
  · rw [bI_t ⟨Int32.not_lt.mp c, Int32.not_le.mp c2⟩] at hK; exact hK
def tX14_begins : List q_I := [(0, .aload_n 0, 1, 0, 0), (1, .iload_n 1, 1, 0, 0), (2, .putfield 136, 3, 0, 0), (5, .aload_n 0, 1, 0, 0), (6, .iconst 0, 1, 0, 0), (7, .putfield 359, 3, 0, 0), (10, .aload_n 0, 1, 0, 0), (11, .iconst 0, 1, 0, 0), (12, .putfield 151, 3, 0, 0), (15, .aload_n 0, 1, 0, 0), (16, .iconst 0, 1, 0, 0), (17, .putfield 362, 3, 0, 0), (20, .return_, 1, 0, 0)]
theorem tX14_begins_ok : (tX14_begins.all (q_okI cX14_begins)) = true := by decide +kernel

abbrev fdX14_begins : List (Nat ⊕ (Nat × Nat)) := [.inl 0]
def spX14_begins : q_P := fun a w K => ∃ (th : Int32) (tr : Int32) (wh : Int32) (fa : Int32) (ta : Int32) (sz : Int32) (ix : Int32) (so : Int32) (pl : Int32) (nu : Int32) (wd : Int64) (td : Int32) (pn : Int32) (mk : Int32) (mo : Int32) (sn : Int32) (bo : Int32) (jn : Int32) (qn : Int32) (cn : Int32) (bk : Value) (fr : Value) (st : Value) (x : Int32), w = (modelO th tr wh fa ta sz ix so pl nu wd td pn mk mo sn bo jn qn cn bk fr st) ∧ a = [.ref 0, .int x] ∧ K (.inl none) (modelO th tr wh (0) (0) (x) (0) so pl nu wd td pn mk mo sn bo jn qn cn bk fr st)
abbrev csX14_begins : q_S := (2, 14, 0, 2, 0, 0, fdX14_begins, spX14_begins)
def EX14_begins : q_E := (tX14_begins, [], 2, flX14, [], [], [], [], [], [], 0, 0, 0, none, [], [], 0, 0)
theorem okX14_begins (l : Launch) : q_Eok l RX14 cX14_begins EX14_begins := ⟨tX14_begins_ok, flX14_ok, q_nil, q_nil, q_nil, q_nil, q_nil, q_nil, (fun h => absurd h (by decide))⟩
set_option maxRecDepth 100000 in
set_option maxHeartbeats 4000000 in
theorem ctX14_begins (l : Launch) : q_CT l yX14_begins (.code yX14_begins cX14_begins 2 none) 0 0 0 spX14_begins := by
  refine q_ct_of EX14_begins (by decide +kernel) (okX14_begins l) rfl rfl rfl rfl rfl q_nil (fun ci h => by cases h) rfl ?_
  intro a w K h
  obtain ⟨th, tr, wh, fa, ta, sz, ix, so, pl, nu, wd, td, pn, mk, mo, sn, bo, jn, qn, cn, bk, fr, st, x, rfl, rfl, hK⟩ := h
  refine ⟨Nat.le_of_ble_eq_true rfl, fun C hC => hC _ _ _ _ _ _ ?_⟩
  exact hK
def tX14_isOf : List q_I := [(0, .aload_n 0, 1, 0, 0), (1, .getfield 379, 3, 0, 0), (4, .ifnull 24, 3, 0, 28), (7, .iload_n 2, 1, 0, 0), (8, .ifCond .lt 20, 3, 0, 28), (11, .iload_n 2, 1, 0, 0), (12, .aload_n 0, 1, 0, 0), (13, .getfield 379, 3, 0, 0), (16, .getfield 246, 3, 0, 0), (19, .iload_n 1, 1, 0, 0), (20, .iaload, 1, 0, 0), (21, .if_icmp .ge 7, 3, 0, 28), (24, .iconst 1, 1, 1, 0), (25, .goto 4, 3, 0, 29), (28, .iconst 0, 1, 0, 0), (29, .ireturn, 1, 0, 0)]
theorem tX14_isOf_ok : (tX14_isOf.all (q_okI cX14_isOf)) = true := by decide +kernel

abbrev fdX14_isOf : List (Nat ⊕ (Nat × Nat)) := [.inl 0, .inr (0, 4), .inr (1, 0), .inr (1, 1), .inr (1, 2), .inr (1, 3), .inr (1, 8), .inr (1, 9), .inr (1, 10), .inr (1, 11), .inr (1, 12), .inr (1, 13), .inr (1, 14), .inr (1, 15), .inr (1, 16), .inr (1, 17), .inr (1, 18), .inr (1, 19), .inr (1, 20), .inr (1, 21), .inr (1, 22), .inr (1, 23), .inr (1, 24), .inr (1, 25), .inr (1, 26), .inr (1, 27), .inr (1, 28)]
def spX14_isOf : q_P := fun a w K => ∃ (th : Int32) (tr : Int32) (wh : Int32) (fa : Int32) (ta : Int32) (sz : Int32) (ix : Int32) (so : Int32) (pl : Int32) (nu : Int32) (wd : Int64) (td : Int32) (pn : Int32) (mk : Int32) (mo : Int32) (sn : Int32) (bo : Int32) (jn : Int32) (qn : Int32) (cn : Int32) (B : BT) (R : RT) (L : LT) (G : GT) (s : Nat) (x : Int32), w = (modelQ th tr wh fa ta sz ix so pl nu wd td pn mk mo sn bo jn qn cn B R L G) ∧ a = [.ref 0, .int (nI s), .int x] ∧ s < 4 ∧ K (.inl (some (.int (bI (toldB B.1 s x))))) (modelQ th tr wh fa ta sz ix so pl nu wd td pn mk mo sn bo jn qn cn B R L G)
abbrev csX14_isOf : q_S := (3, 14, 0, 3, 0, 0, fdX14_isOf, spX14_isOf)
def EX14_isOf : q_E := (tX14_isOf, [], 3, flX14, [], [], [], [], [], [], 0, 0, 0, (some .boolean), [], [], 0, 0)
theorem okX14_isOf (l : Launch) : q_Eok l RX14 cX14_isOf EX14_isOf := ⟨tX14_isOf_ok, flX14_ok, q_nil, q_nil, q_nil, q_nil, q_nil, q_nil, (fun h => absurd h (by decide))⟩
set_option maxRecDepth 100000 in
set_option maxHeartbeats 4000000 in
theorem ctX14_isOf (l : Launch) : q_CT l yX14_isOf (.code yX14_isOf cX14_isOf 3 (some .boolean)) 0 0 0 spX14_isOf := by
  refine q_ct_of EX14_isOf (by decide +kernel) (okX14_isOf l) rfl rfl rfl rfl rfl q_nil (fun ci h => by cases h) rfl ?_
  intro a w K h
  obtain ⟨th, tr, wh, fa, ta, sz, ix, so, pl, nu, wd, td, pn, mk, mo, sn, bo, jn, qn, cn, B, R, L, G, s, x, rfl, rfl, hs, hK⟩ := h
  have hc : (nI s).toNatClampNeg = s := nI_clamp (by omega)
  refine ⟨Nat.le_of_ble_eq_true rfl, fun C hC => hC _ _ _ _ _ _ ?_⟩
  refine And.intro (fun c => ⟨rfl, ?_⟩) (fun c => ⟨vp_in_nI hs (by omega), And.intro (fun c2 => ⟨rfl, ?_⟩) (fun c2 => ⟨rfl, ?_⟩)⟩)
  · rw [show toldB B.1 s x = false from decide_eq_false (fun z => Int32.not_le.mpr c z.1)] at hK; exact hK
  · rw [hc] at c2
    rw [show toldB B.1 s x = false from decide_eq_false (fun z => Int32.not_le.mpr z.2 c2)] at hK; exact hK
  · rw [hc] at c2
    rw [show toldB B.1 s x = true from decide_eq_true ⟨Int32.not_lt.mp c, Int32.not_le.mp c2⟩] at hK; exact hK
abbrev fdX14_isOf_n : List (Nat ⊕ (Nat × Nat)) := [.inl 0]
def spX14_isOf_n : q_P := fun a w K => ∃ (th : Int32) (tr : Int32) (wh : Int32) (fa : Int32) (ta : Int32) (sz : Int32) (ix : Int32) (so : Int32) (pl : Int32) (nu : Int32) (wd : Int64) (td : Int32) (pn : Int32) (mk : Int32) (mo : Int32) (sn : Int32) (bo : Int32) (jn : Int32) (qn : Int32) (cn : Int32) (bk : Value) (fr : Value) (st : Value) (s x : Int32), w = (modelO th tr wh fa ta sz ix so pl nu wd td pn mk mo sn bo jn qn cn (.null) fr st) ∧ a = [.ref 0, .int s, .int x] ∧ K (.inl (some (.int 0))) (modelO th tr wh fa ta sz ix so pl nu wd td pn mk mo sn bo jn qn cn (.null) fr st)
abbrev csX14_isOf_n : q_S := (3, 14, 0, 3, 0, 0, fdX14_isOf_n, spX14_isOf_n)
def EX14_isOf_n : q_E := (tX14_isOf, [], 3, flX14, [], [], [], [], [], [], 0, 0, 0, (some .boolean), [], [], 0, 0)
theorem okX14_isOf_n (l : Launch) : q_Eok l RX14 cX14_isOf EX14_isOf_n := ⟨tX14_isOf_ok, flX14_ok, q_nil, q_nil, q_nil, q_nil, q_nil, q_nil, (fun h => absurd h (by decide))⟩
set_option maxRecDepth 100000 in
set_option maxHeartbeats 4000000 in
theorem ctX14_isOf_n (l : Launch) : q_CT l yX14_isOf (.code yX14_isOf cX14_isOf 3 (some .boolean)) 0 0 0 spX14_isOf_n := by
  refine q_ct_of EX14_isOf_n (by decide +kernel) (okX14_isOf_n l) rfl rfl rfl rfl rfl q_nil (fun ci h => by cases h) rfl ?_
  intro a w K h
  obtain ⟨th, tr, wh, fa, ta, sz, ix, so, pl, nu, wd, td, pn, mk, mo, sn, bo, jn, qn, cn, bk, fr, st, s, x, rfl, rfl, hK⟩ := h
  refine ⟨Nat.le_of_ble_eq_true rfl, fun C hC => hC _ _ _ _ _ _ ?_⟩
  exact ⟨rfl, hK⟩
def tX14_lawOf : List q_I := [(0, .aload_n 0, 1, 0, 0), (1, .getfield 379, 3, 0, 0), (4, .getfield 294, 3, 0, 0), (7, .iconst 1, 1, 1, 0), (8, .isub, 1, 0, 0), (9, .istore 6, 2, 0, 0), (11, .iload 6, 2, 0, 0), (13, .ifCond .lt 111, 3, 0, 124), (16, .aload_n 0, 1, 0, 0), (17, .getfield 379, 3, 0, 0), (20, .getfield 297, 3, 0, 0), (23, .iload 6, 2, 0, 0), (25, .iaload, 1, 0, 0), (26, .iload_n 1, 1, 0, 0), (27, .if_icmp .ne 35, 3, 0, 62), (30, .aload_n 0, 1, 0, 0), (31, .getfield 379, 3, 0, 0), (34, .getfield 307, 3, 0, 0), (37, .iload 6, 2, 0, 0), (39, .iaload, 1, 0, 0), (40, .iload_n 2, 1, 0, 0), (41, .if_icmp .ne 21, 3, 0, 62), (44, .aload_n 0, 1, 0, 0), (45, .getfield 379, 3, 0, 0), (48, .getfield 312, 3, 0, 0), (51, .iload 6, 2, 0, 0), (53, .iaload, 1, 0, 0), (54, .iload_n 3, 1, 0, 0), (55, .if_icmp .ne 7, 3, 0, 62), (58, .iconst 1, 1, 1, 0), (59, .goto 4, 3, 0, 63), (62, .iconst 0, 1, 0, 0), (63, .istore 7, 2, 0, 0), (65, .iload 7, 2, 0, 0), (67, .ifCond .eq 51, 3, 0, 118), (70, .iload 4, 2, 0, 0), (72, .aload_n 0, 1, 0, 0), (73, .getfield 379, 3, 0, 0), (76, .getfield 317, 3, 0, 0), (79, .iload 6, 2, 0, 0), (81, .iaload, 1, 0, 0), (82, .if_icmp .lt 36, 3, 0, 118), (85, .iload 4, 2, 0, 0), (87, .aload_n 0, 1, 0, 0), (88, .getfield 379, 3, 0, 0), (91, .getfield 319, 3, 0, 0), (94, .iload 6, 2, 0, 0), (96, .iaload, 1, 0, 0), (97, .if_icmp .gt 21, 3, 0, 118), (100, .aload_n 0, 1, 0, 0), (101, .getfield 379, 3, 0, 0), (104, .getfield 322, 3, 0, 0), (107, .iload 6, 2, 0, 0), (109, .iaload, 1, 0, 0), (110, .iload 5, 2, 0, 0), (112, .if_icmp .gt 6, 3, 0, 118), (115, .iload 6, 2, 0, 0), (117, .ireturn, 1, 0, 0), (118, .iinc 6 (-1), 3, (-1), 0), (121, .goto (-110), 3, 0, 11), (124, .iconst (-1), 1, (-1), 0), (125, .ireturn, 1, 0, 0)]
theorem tX14_lawOf_ok : (tX14_lawOf.all (q_okI cX14_lawOf)) = true := by decide +kernel

abbrev fdX14_lawOf : List (Nat ⊕ (Nat × Nat)) := [.inl 0, .inr (0, 4), .inr (1, 0), .inr (1, 1), .inr (1, 2), .inr (1, 3), .inr (1, 8), .inr (1, 9), .inr (1, 10), .inr (1, 11), .inr (1, 12), .inr (1, 13), .inr (1, 14), .inr (1, 15), .inr (1, 16), .inr (1, 17), .inr (1, 18), .inr (1, 19), .inr (1, 20), .inr (1, 21), .inr (1, 22), .inr (1, 23), .inr (1, 24), .inr (1, 25), .inr (1, 26), .inr (1, 27), .inr (1, 28)]
def spX14_lawOf : q_P := fun a w K => ∃ (th : Int32) (tr : Int32) (wh : Int32) (fa : Int32) (ta : Int32) (sz : Int32) (ix : Int32) (so : Int32) (pl : Int32) (nu : Int32) (wd : Int64) (td : Int32) (pn : Int32) (mk : Int32) (mo : Int32) (sn : Int32) (bo : Int32) (jn : Int32) (qn : Int32) (cn : Int32) (B : BT) (R : RT) (L : LT) (G : GT) (x1 x2 x3 x4 x5 : Int32), w = (modelQ th tr wh fa ta sz ix so pl nu wd td pn mk mo sn bo jn qn cn B R L G) ∧ a = [.ref 0, .int x1, .int x2, .int x3, .int x4, .int x5] ∧ L_n L ≤ 24 ∧ K (.inl (some (.int (oI (ruling L x1 x2 x3 x4 x5))))) (modelQ th tr wh fa ta sz ix so pl nu wd td pn mk mo sn bo jn qn cn B R L G)
abbrev csX14_lawOf : q_S := (6, 14, 0, 8, 0, 0, fdX14_lawOf, spX14_lawOf)
def EX14_lawOf : q_E := (tX14_lawOf, [(11, [0, 1, 2, 3, 4, 5, 6]), (65, [0, 1, 2, 3, 4, 5, 6, 7])], 8, flX14, [], [], [], [], [], [], 0, 0, 0, (some .int), [], [], 0, 0)
theorem okX14_lawOf (l : Launch) : q_Eok l RX14 cX14_lawOf EX14_lawOf := ⟨tX14_lawOf_ok, flX14_ok, q_nil, q_nil, q_nil, q_nil, q_nil, q_nil, (fun h => absurd h (by decide))⟩
set_option maxRecDepth 100000 in
set_option maxHeartbeats 4000000 in
theorem ctX14_lawOf (l : Launch) : q_CT l yX14_lawOf (.code yX14_lawOf cX14_lawOf 8 (some .int)) 0 0 0 spX14_lawOf := by
  refine q_ct_of EX14_lawOf (by decide +kernel) (okX14_lawOf l) rfl rfl rfl rfl rfl q_nil (fun ci h => by cases h) rfl ?_
  intro a w K h
  obtain ⟨th, tr, wh, fa, ta, sz, ix, so, pl, nu, wd, td, pn, mk, mo, sn, bo, jn, qn, cn, B, R, L, G, x1, x2, x3, x4, x5, rfl, rfl, hL, hK⟩ := h
  refine ⟨Nat.le_of_ble_eq_true rfl, fun C hC => ?_⟩
  have loop : ∀ n, n ≤ L_n L → K (.inl (some (.int (oI (rulO (rulP L x1 x2 x3 x4 x5) n))))) (modelQ th tr wh fa ta sz ix so pl nu wd td pn mk mo sn bo jn qn cn B R L G) → C 11 [(0, .ref 0), (1, .int x1), (2, .int x2), (3, .int x3), (4, .int x4), (5, .int x5), (6, .int (nI n - 1))] [] (modelQ th tr wh fa ta sz ix so pl nu wd td pn mk mo sn bo jn qn cn B R L G) 0 0 := by
    intro n
    induction n with
    | zero =>
      intro _ hK
      refine hC _ _ _ _ _ _ (And.intro (fun c => hK) (fun c => absurd (show nI 0 - 1 < 0 by decide) c))
    | succ n ih =>
      intro hn hK
      have hp : nI (n + 1) - 1 = nI n := nI_pred n
      rw [hp]
      have hv : vp_in (nI n) 24 := vp_in_nI (by omega) (by omega)
      have hc : (nI n).toNatClampNeg = n := nI_clamp (by omega)
      have fin : ∀ b : Bool, b = (decide (L.1 n = x1) && (decide (L.2.1 n = x2) && decide (L.2.2.1 n = x3))) → C 65 [(0, .ref 0), (1, .int x1), (2, .int x2), (3, .int x3), (4, .int x4), (5, .int x5), (6, .int (nI n)), (7, .int (bI b))] [] (modelQ th tr wh fa ta sz ix so pl nu wd td pn mk mo sn bo jn qn cn B R L G) 0 0 := by
        intro b hb
        have no : rulP L x1 x2 x3 x4 x5 n = false → C 11 [(0, .ref 0), (1, .int x1), (2, .int x2), (3, .int x3), (4, .int x4), (5, .int x5), (6, .int (nI n + (-1)))] [] (modelQ th tr wh fa ta sz ix so pl nu wd td pn mk mo sn bo jn qn cn B R L G) 0 0 := by
          intro hf
          rw [rulO, hf] at hK
          have h9 := ih (by omega) hK
          rw [show nI n + (-1) = nI n - 1 from (Int32.sub_eq_add_neg ..).symm]
          exact h9
        refine hC _ _ _ _ _ _ (And.intro (fun c => ?_) (fun c => ?_))
        · have hb2 : b = false := bI_0.mp c
          refine no ?_
          unfold rulP
          rw [hb2] at hb
          rw [show (decide (L.1 n = x1) && (decide (L.2.1 n = x2) && (decide (L.2.2.1 n = x3) && (decide (L.2.2.2.2.1 n ≤ x4) && (decide (x4 ≤ L.2.2.2.2.2.1 n) && decide (L.2.2.2.2.2.2.1 n ≤ x5)))))) = ((decide (L.1 n = x1) && (decide (L.2.1 n = x2) && decide (L.2.2.1 n = x3))) && (decide (L.2.2.2.2.1 n ≤ x4) && (decide (x4 ≤ L.2.2.2.2.2.1 n) && decide (L.2.2.2.2.2.2.1 n ≤ x5)))) by simp only [Bool.and_assoc], ← hb, Bool.false_and]
        · have hb2 : b = true := bI_n0.mp c
          rw [hb2] at hb
          have hP : rulP L x1 x2 x3 x4 x5 n = (decide (L.2.2.2.2.1 n ≤ x4) && (decide (x4 ≤ L.2.2.2.2.2.1 n) && decide (L.2.2.2.2.2.2.1 n ≤ x5))) := by
            unfold rulP
            rw [show (decide (L.1 n = x1) && (decide (L.2.1 n = x2) && (decide (L.2.2.1 n = x3) && (decide (L.2.2.2.2.1 n ≤ x4) && (decide (x4 ≤ L.2.2.2.2.2.1 n) && decide (L.2.2.2.2.2.2.1 n ≤ x5)))))) = ((decide (L.1 n = x1) && (decide (L.2.1 n = x2) && decide (L.2.2.1 n = x3))) && (decide (L.2.2.2.2.1 n ≤ x4) && (decide (x4 ≤ L.2.2.2.2.2.1 n) && decide (L.2.2.2.2.2.2.1 n ≤ x5)))) by simp only [Bool.and_assoc], ← hb, Bool.true_and]
          refine ⟨hv, And.intro (fun c2 => ?_) (fun c2 => ⟨hv, And.intro (fun c3 => ?_) (fun c3 => ⟨hv, And.intro (fun c4 => ?_) (fun c4 => ?_)⟩)⟩)⟩
          · rw [hc] at c2
            exact no (by rw [hP, decide_eq_false (Int32.not_le.mpr c2), Bool.false_and])
          · rw [hc] at c3
            exact no (by rw [hP, decide_eq_false (Int32.not_le.mpr c3), Bool.false_and, Bool.and_false])
          · rw [hc] at c4
            exact no (by rw [hP, decide_eq_false (Int32.not_le.mpr c4), Bool.and_false, Bool.and_false])
          · rw [hc] at c2 c3 c4
            rw [rulO, hP, decide_eq_true (Int32.not_lt.mp c2), decide_eq_true (Int32.not_lt.mp c3), decide_eq_true (Int32.not_lt.mp c4)] at hK
            exact hK
      refine hC _ _ _ _ _ _ (And.intro (fun c => absurd c (nI_pos (by omega))) (fun _ => ⟨hv, And.intro (fun c => ?_) (fun c => ⟨hv, And.intro (fun c2 => ?_) (fun c2 => ⟨hv, And.intro (fun c3 => ?_) (fun c3 => ?_)⟩)⟩)⟩))
      · rw [hc] at c
        exact fin false (by rw [decide_eq_false c, Bool.false_and])
      · rw [hc] at c2
        exact fin false (by rw [decide_eq_false c2, Bool.false_and, Bool.and_false])
      · rw [hc] at c3
        exact fin false (by rw [decide_eq_false c3, Bool.and_false, Bool.and_false])
      · rw [hc] at c c2 c3
        exact fin true (by rw [decide_eq_true c, decide_eq_true c2, decide_eq_true c3]; rfl)
  exact hC _ _ _ _ _ _ (loop (L_n L) (Nat.le_refl _) hK)
theorem nI_nm1 {i : Nat} (h : i < 2 ^ 31) : ¬ nI i = -1 := fun z => by
  have h1 := congrArg Int32.toInt z
  rw [nI_toInt h] at h1
  have h2 : (-1 : Int32).toInt = -1 := by decide
  rw [h2] at h1
  omega
def tX14_isTaken : List q_I := [(0, .aload_n 0, 1, 0, 0), (1, .iload_n 1, 1, 0, 0), (2, .iload_n 2, 1, 0, 0), (3, .iload_n 3, 1, 0, 0), (4, .iload 4, 2, 0, 0), (6, .iload 4, 2, 0, 0), (8, .invokevirtual 403, 3, 0, 0), (11, .istore 5, 2, 0, 0), (13, .iload 5, 2, 0, 0), (15, .iconst (-1), 1, (-1), 0), (16, .if_icmp .eq 20, 3, 0, 36), (19, .aload_n 0, 1, 0, 0), (20, .getfield 379, 3, 0, 0), (23, .getfield 300, 3, 0, 0), (26, .iload 5, 2, 0, 0), (28, .baload, 1, 0, 0), (29, .ifCond .eq 7, 3, 0, 36), (32, .iconst 1, 1, 1, 0), (33, .goto 4, 3, 0, 37), (36, .iconst 0, 1, 0, 0), (37, .ireturn, 1, 0, 0)]
theorem tX14_isTaken_ok : (tX14_isTaken.all (q_okI cX14_isTaken)) = true := by decide +kernel

abbrev fdX14_isTaken : List (Nat ⊕ (Nat × Nat)) := [.inl 0, .inr (0, 4), .inr (1, 0), .inr (1, 1), .inr (1, 2), .inr (1, 3), .inr (1, 8), .inr (1, 9), .inr (1, 10), .inr (1, 11), .inr (1, 12), .inr (1, 13), .inr (1, 14), .inr (1, 15), .inr (1, 16), .inr (1, 17), .inr (1, 18), .inr (1, 19), .inr (1, 20), .inr (1, 21), .inr (1, 22), .inr (1, 23), .inr (1, 24), .inr (1, 25), .inr (1, 26), .inr (1, 27), .inr (1, 28)]
def spX14_isTaken : q_P := fun a w K => ∃ (th : Int32) (tr : Int32) (wh : Int32) (fa : Int32) (ta : Int32) (sz : Int32) (ix : Int32) (so : Int32) (pl : Int32) (nu : Int32) (wd : Int64) (td : Int32) (pn : Int32) (mk : Int32) (mo : Int32) (sn : Int32) (bo : Int32) (jn : Int32) (qn : Int32) (cn : Int32) (B : BT) (R : RT) (L : LT) (G : GT) (ld k o d : Int32), w = (modelQ th tr wh fa ta sz ix so pl nu wd td pn mk mo sn bo jn qn cn B R L G) ∧ a = [.ref 0, .int ld, .int k, .int o, .int d] ∧ L_n L ≤ 24 ∧ K (.inl (some (.int (bI (accOn L d ld k o))))) (modelQ th tr wh fa ta sz ix so pl nu wd td pn mk mo sn bo jn qn cn B R L G)
abbrev csX14_isTaken : q_S := (5, 14, 1, 6, 0, 0, fdX14_isTaken, spX14_isTaken)
theorem coX14_403 (l : Launch) : q_CO l RX14 403 csX14_lawOf := ⟨yX14_lawOf, cX14_lawOf, (some .int), 5, ⟨by decide +kernel, by decide +kernel, by decide +kernel⟩, q_G_i 17 (by decide +kernel) rfl, Or.inl ⟨by decide, rfl, rfl, q_G_i 1710 (by decide +kernel) rfl, q_G_i 1712 (by decide +kernel) rfl, q_G_s (n := 53) 68 (by decide +kernel), Or.inl ⟨q_G_i 1713 (by decide +kernel) rfl, ctX14_lawOf l⟩⟩⟩
def EX14_isTaken : q_E := (tX14_isTaken, [], 6, flX14, [(403, csX14_lawOf)], [], [], [], [], [], 1, 0, 0, (some .boolean), [], [], 0, 0)
theorem okX14_isTaken (l : Launch) : q_Eok l RX14 cX14_isTaken EX14_isTaken := ⟨tX14_isTaken_ok, flX14_ok, List.forall_mem_cons.mpr ⟨(coX14_403 l), q_nil⟩, q_nil, q_nil, q_nil, q_nil, q_nil, (fun h => absurd h (by decide))⟩
set_option maxRecDepth 100000 in
set_option maxHeartbeats 4000000 in
theorem ctX14_isTaken (l : Launch) : q_CT l yX14_isTaken (.code yX14_isTaken cX14_isTaken 6 (some .boolean)) 1 0 0 spX14_isTaken := by
  refine q_ct_of EX14_isTaken (by decide +kernel) (okX14_isTaken l) rfl rfl rfl rfl rfl q_nil (fun ci h => by cases h) rfl ?_
  intro a w K h
  obtain ⟨th, tr, wh, fa, ta, sz, ix, so, pl, nu, wd, td, pn, mk, mo, sn, bo, jn, qn, cn, B, R, L, G, ld, k, o, d, rfl, rfl, hL, hK⟩ := h
  refine ⟨Nat.le_of_ble_eq_true rfl, fun C hC => hC _ _ _ _ _ _ ?_⟩
  refine ⟨_, _, _, _, _, _, _, _, _, _, _, _, _, _, _, _, _, _, _, _, _, _, _, _, ld, k, o, d, d, rfl, rfl, hL, ?_⟩
  rw [accOn] at hK
  rcases hr : ruling L ld k o d d with _ | i
  · rw [hr] at hK
    exact And.intro (fun _ => ⟨rfl, hK⟩) (fun c => absurd rfl c)
  · rw [hr, saysT] at hK
    have hi := rulO_lt hr
    have hc : (oI (some i)).toNatClampNeg = i := nI_clamp (by omega)
    refine And.intro (fun c => absurd c (nI_nm1 (by omega))) (fun _ => ⟨vp_in_nI (by omega) (by omega), And.intro (fun c => ⟨rfl, ?_⟩) (fun c => ⟨rfl, ?_⟩)⟩)
    · rw [hc] at c
      rw [bI_f (fun z => z c)] at hK; exact hK
    · rw [hc] at c
      rw [bI_t c] at hK; exact hK
