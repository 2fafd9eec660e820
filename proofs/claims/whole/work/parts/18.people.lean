def anyF (f : Nat → Bool) : Nat → Nat → Bool
  | _, 0 => false
  | s, n + 1 => f s || anyF f (s + 1) n
def foldF {α : Type} (g : α → Nat → α) : Nat → Nat → α → α
  | _, 0, x => x
  | s, n + 1, x => foldF g (s + 1) n (g x s)
/-- place, papers, kind, office, from, to, count -/
abbrev PT : Type := (Nat → Int32) × (Nat → Int32) × (Nat → Int32) × (Nat → Int32) × (Nat → Int32) × (Nat → Int32) × Nat
def peopleW (o : Nat) (P : PT) : List q_C := [.inr (6, [.ref (o + 1), .ref (o + 2), .ref (o + 3), .ref (o + 4), .ref (o + 5), .ref (o + 6), .int (nI P.2.2.2.2.2.2)]), .inl (1, 30, .inl P.1), .inl (1, 30, .inl P.2.1), .inl (1, 240, .inl P.2.2.1), .inl (1, 240, .inl P.2.2.2.1), .inl (1, 240, .inl P.2.2.2.2.1), .inl (1, 240, .inl P.2.2.2.2.2.1)]
/-- how many papers -/
def pcN (P : PT) (p : Nat) : Nat := (P.2.1 p).toNatClampNeg
def pOk (P : PT) : Prop := P.2.2.2.2.2.2 ≤ 30 ∧ ∀ p, p < P.2.2.2.2.2.2 → P.2.1 p = nI (pcN P p) ∧ pcN P p ≤ 8
def lastsP (P : PT) (day : Int32) (k : Nat) : Bool := decide (P.2.2.2.2.1 k ≤ day) && decide (day ≤ P.2.2.2.2.2.1 k)
def hasLast (P : PT) (p : Nat) (kind day : Int32) : Bool := anyF (fun k => decide (P.2.2.1 k = kind) && lastsP P day k) (p * 8) (pcN P p)
def hasGd (P : PT) (L : LT) (p : Nat) (kind land day : Int32) : Bool := anyF (fun k => decide (P.2.2.1 k = kind) && (lastsP P day k && accOn L day land kind (P.2.2.2.1 k))) (p * 8) (pcN P p)
def landsG (P : PT) (L : LT) (p : Nat) (kind day : Int32) : Nat → Int32
  | 0 => 0
  | i + 1 => if hasGd P L p kind (nI i) day then landsG P L p kind day i ||| ((1 : Int32) <<< (nI i &&& 31)) else landsG P L p kind day i
def dayHd (P : PT) (p : Nat) (kind office e : Int32) : Int32 := foldF (fun x k => if P.2.2.1 k = kind ∧ P.2.2.2.1 k = office ∧ e ≤ P.2.2.2.2.2.1 k then mnI x (mxI (P.2.2.2.2.1 k) e) else x) (p * 8) (pcN P p) 1000000
def begB (P : PT) (day : Int32) (p : Nat) (kind : Int32) : Int32 := foldF (fun x k => if P.2.2.1 k = kind then soon x (P.2.2.2.2.1 k) day else x) (p * 8) (pcN P p) 1000000
theorem nI_mul8 (p : Nat) : nI p * 8 = nI (p * 8) := pk_mul p 8
def peopleAdd (P : PT) (x : Int32) : PT := (upd P.1 P.2.2.2.2.2.2 x, upd P.2.1 P.2.2.2.2.2.2 0, P.2.2.1, P.2.2.2.1, P.2.2.2.2.1, P.2.2.2.2.2.1, P.2.2.2.2.2.2 + 1)
def peopleGive (P : PT) (p : Nat) (k o f t : Int32) : PT := (P.1, upd P.2.1 p (nI (pcN P p + 1)), upd P.2.2.1 (p * 8 + pcN P p) k, upd P.2.2.2.1 (p * 8 + pcN P p) o, upd P.2.2.2.2.1 (p * 8 + pcN P p) f, upd P.2.2.2.2.2.1 (p * 8 + pcN P p) t, P.2.2.2.2.2.2)
theorem pOk_ix {P : PT} (h : pOk P) {p : Nat} (hp : p < P.2.2.2.2.2.2) : vp_in (nI p) 30 ∧ (nI p).toNatClampNeg = p ∧ P.2.1 p = nI (pcN P p) ∧ pcN P p ≤ 8 ∧ p < 30 := by
  obtain ⟨h1, h2⟩ := h
  obtain ⟨h3, h4⟩ := h2 p hp
  exact ⟨vp_in_nI (by omega) (by omega), nI_clamp (by omega), h3, h4, by omega⟩

def tX6_has : List q_I := [(0, .iload_n 1, 1, 0, 0), (1, .ifCond .lt 15, 3, 0, 16), (4, .iload_n 1, 1, 0, 0), (5, .aload_n 0, 1, 0, 0), (6, .getfield 30, 3, 0, 0), (9, .if_icmp .ge 7, 3, 0, 16), (12, .iconst 1, 1, 1, 0), (13, .goto 4, 3, 0, 17), (16, .iconst 0, 1, 0, 0), (17, .ireturn, 1, 0, 0)]
theorem tX6_has_ok : (tX6_has.all (q_okI cX6_has)) = true := by decide +kernel

abbrev fdX6_has : List (Nat ⊕ (Nat × Nat)) := [.inl 0, .inr (0, 0), .inr (0, 1), .inr (0, 2), .inr (0, 3), .inr (0, 4), .inr (0, 5)]
def spX6_has : q_P := fun a w K => ∃ (P : PT) (x : Int32), w = peopleW 0 P ∧ a = [.ref 0, .int x] ∧ K (.inl (some (.int (bI (decide (0 ≤ x ∧ x < nI P.2.2.2.2.2.2)))))) (peopleW 0 P)
abbrev csX6_has : q_S := (2, 6, 0, 2, 0, 0, fdX6_has, spX6_has)
def EX6_has : q_E := (tX6_has, [], 2, flX6, [], [], [], [], [], [], 0, 0, 0, (some .boolean), [], [], 0, 0)
theorem okX6_has (l : Launch) : q_Eok l RX6 cX6_has EX6_has := ⟨tX6_has_ok, flX6_ok, q_nil, q_nil, q_nil, q_nil, q_nil, q_nil, (fun h => absurd h (by decide))⟩
set_option maxRecDepth 100000 in
set_option maxHeartbeats 4000000 in
theorem ctX6_has (l : Launch) : q_CT l yX6_has (.code yX6_has cX6_has 2 (some .boolean)) 0 0 0 spX6_has := by
  refine q_ct_of EX6_has (by decide +kernel) (okX6_has l) rfl rfl rfl rfl rfl q_nil (fun ci h => by cases h) rfl ?_
  intro a w K h
  obtain ⟨P, x, rfl, rfl, hK⟩ := h
  refine ⟨Nat.le_of_ble_eq_true rfl, fun C hC => hC _ _ _ _ _ _ ?_⟩
  refine And.intro (fun c => ⟨rfl, ?_⟩) (fun c => And.intro (fun c2 => ⟨rfl, ?_⟩) (fun c2 => ⟨rfl, ?_⟩))
  · rw [bI_f (fun z => Int32.not_le.mpr c z.1)] at hK; exact hK
  · rw [bI_f (fun z => Int32.not_le.mpr z.2 c2)] at hK; exact hK
  · rw [bI_t ⟨Int32.not_lt.mp c, Int32.not_le.mp c2⟩] at hK; exact hK
def tX6_hasRoom : List q_I := [(0, .aload_n 0, 1, 0, 0), (1, .getfield 30, 3, 0, 0), (4, .bipush 30, 2, 30, 0), (6, .if_icmp .ge 7, 3, 0, 13), (9, .iconst 1, 1, 1, 0), (10, .goto 4, 3, 0, 14), (13, .iconst 0, 1, 0, 0), (14, .ireturn, 1, 0, 0)]
theorem tX6_hasRoom_ok : (tX6_hasRoom.all (q_okI cX6_hasRoom)) = true := by decide +kernel

abbrev fdX6_hasRoom : List (Nat ⊕ (Nat × Nat)) := [.inl 0, .inr (0, 0), .inr (0, 1), .inr (0, 2), .inr (0, 3), .inr (0, 4), .inr (0, 5)]
def spX6_hasRoom : q_P := fun a w K => ∃ (P : PT), w = peopleW 0 P ∧ a = [.ref 0] ∧ P.2.2.2.2.2.2 ≤ 30 ∧ K (.inl (some (.int (bI (decide (P.2.2.2.2.2.2 < 30)))))) (peopleW 0 P)
abbrev csX6_hasRoom : q_S := (1, 6, 0, 1, 0, 0, fdX6_hasRoom, spX6_hasRoom)
def EX6_hasRoom : q_E := (tX6_hasRoom, [], 1, flX6, [], [], [], [], [], [], 0, 0, 0, (some .boolean), [], [], 0, 0)
theorem okX6_hasRoom (l : Launch) : q_Eok l RX6 cX6_hasRoom EX6_hasRoom := ⟨tX6_hasRoom_ok, flX6_ok, q_nil, q_nil, q_nil, q_nil, q_nil, q_nil, (fun h => absurd h (by decide))⟩
set_option maxRecDepth 100000 in
set_option maxHeartbeats 4000000 in
theorem ctX6_hasRoom (l : Launch) : q_CT l yX6_hasRoom (.code yX6_hasRoom cX6_hasRoom 1 (some .boolean)) 0 0 0 spX6_hasRoom := by
  refine q_ct_of EX6_hasRoom (by decide +kernel) (okX6_hasRoom l) rfl rfl rfl rfl rfl q_nil (fun ci h => by cases h) rfl ?_
  intro a w K h
  obtain ⟨P, rfl, rfl, hn, hK⟩ := h
  refine ⟨Nat.le_of_ble_eq_true rfl, fun C hC => hC _ _ _ _ _ _ ?_⟩
  refine And.intro (fun c => ⟨rfl, ?_⟩) (fun c => ⟨rfl, ?_⟩)
  · rw [bI_f (fun z => nI_ge (b := 30) z (by omega) c)] at hK; exact hK
  · rw [bI_t (by rcases Nat.lt_or_ge P.2.2.2.2.2.2 30 with z | z; exact z; exact absurd (nI_le (a := 30) z (by omega)) c)] at hK; exact hK
def tX6_add : List q_I := [(0, .aload_n 0, 1, 0, 0), (1, .getfield 11, 3, 0, 0), (4, .aload_n 0, 1, 0, 0), (5, .getfield 30, 3, 0, 0), (8, .iload_n 1, 1, 0, 0), (9, .iastore, 1, 0, 0), (10, .aload_n 0, 1, 0, 0), (11, .getfield 15, 3, 0, 0), (14, .aload_n 0, 1, 0, 0), (15, .getfield 30, 3, 0, 0), (18, .iconst 0, 1, 0, 0), (19, .iastore, 1, 0, 0), (20, .aload_n 0, 1, 0, 0), (21, .dup, 1, 0, 0), (22, .getfield 30, 3, 0, 0), (25, .iconst 1, 1, 1, 0), (26, .iadd, 1, 0, 0), (27, .putfield 30, 3, 0, 0), (30, .aload_n 0, 1, 0, 0), (31, .getfield 30, 3, 0, 0), (34, .iconst 1, 1, 1, 0), (35, .isub, 1, 0, 0), (36, .ireturn, 1, 0, 0)]
theorem tX6_add_ok : (tX6_add.all (q_okI cX6_add)) = true := by decide +kernel

abbrev fdX6_add : List (Nat ⊕ (Nat × Nat)) := [.inl 0, .inr (0, 0), .inr (0, 1), .inr (0, 2), .inr (0, 3), .inr (0, 4), .inr (0, 5)]
def spX6_add : q_P := fun a w K => ∃ (P : PT) (x : Int32), w = peopleW 0 P ∧ a = [.ref 0, .int x] ∧ P.2.2.2.2.2.2 < 30 ∧ K (.inl (some (.int (nI P.2.2.2.2.2.2)))) (peopleW 0 (peopleAdd P x))
abbrev csX6_add : q_S := (2, 6, 0, 2, 0, 0, fdX6_add, spX6_add)
def EX6_add : q_E := (tX6_add, [], 2, flX6, [], [], [], [], [], [], 0, 0, 0, (some .int), [], [], 0, 0)
theorem okX6_add (l : Launch) : q_Eok l RX6 cX6_add EX6_add := ⟨tX6_add_ok, flX6_ok, q_nil, q_nil, q_nil, q_nil, q_nil, q_nil, (fun h => absurd h (by decide))⟩
set_option maxRecDepth 100000 in
set_option maxHeartbeats 4000000 in
theorem ctX6_add (l : Launch) : q_CT l yX6_add (.code yX6_add cX6_add 2 (some .int)) 0 0 0 spX6_add := by
  refine q_ct_of EX6_add (by decide +kernel) (okX6_add l) rfl rfl rfl rfl rfl q_nil (fun ci h => by cases h) rfl ?_
  intro a w K h
  obtain ⟨P, x, rfl, rfl, hn, hK⟩ := h
  refine ⟨Nat.le_of_ble_eq_true rfl, fun C hC => hC _ _ _ _ _ _ ?_⟩
  have hv : vp_in (nI P.2.2.2.2.2.2) 30 := vp_in_nI hn (by omega)
  have hc : (nI P.2.2.2.2.2.2).toNatClampNeg = P.2.2.2.2.2.2 := nI_clamp (by omega)
  refine ⟨hv, hv, ?_⟩
  show K (.inl (some (.int _))) _
  simp only [hc, nI_1, nI_pred]
  exact hK
def tX6_firstPaper : List q_I := [(0, .iload_n 0, 1, 0, 0), (1, .bipush 8, 2, 8, 0), (3, .imul, 1, 0, 0), (4, .ireturn, 1, 0, 0)]
theorem tX6_firstPaper_ok : (tX6_firstPaper.all (q_okI cX6_firstPaper)) = true := by decide +kernel

abbrev fdX6_firstPaper : List (Nat ⊕ (Nat × Nat)) := []
def spX6_firstPaper : q_P := fun a w K => ∃ (p : Nat), w = [] ∧ a = [.int (nI p)] ∧ K (.inl (some (.int (nI (p * 8))))) []
abbrev csX6_firstPaper : q_S := (1, 99, 0, 1, 0, 0, fdX6_firstPaper, spX6_firstPaper)
def EX6_firstPaper : q_E := (tX6_firstPaper, [], 1, flX6, [], [], [], [], [], [], 0, 0, 0, (some .int), [], [], 0, 0)
theorem okX6_firstPaper (l : Launch) : q_Eok l RX6 cX6_firstPaper EX6_firstPaper := ⟨tX6_firstPaper_ok, flX6_ok, q_nil, q_nil, q_nil, q_nil, q_nil, q_nil, (fun h => absurd h (by decide))⟩
set_option maxRecDepth 100000 in
set_option maxHeartbeats 4000000 in
theorem ctX6_firstPaper (l : Launch) : q_CT l yX6_firstPaper (.code yX6_firstPaper cX6_firstPaper 1 (some .int)) 0 0 0 spX6_firstPaper := by
  refine q_ct_of EX6_firstPaper (by decide +kernel) (okX6_firstPaper l) rfl rfl rfl rfl rfl q_nil (fun ci h => by cases h) rfl ?_
  intro a w K h
  obtain ⟨p, rfl, rfl, hK⟩ := h
  refine ⟨Nat.le_of_ble_eq_true rfl, fun C hC => hC _ _ _ _ _ _ ?_⟩
  show K (.inl (some (.int _))) _
  rw [nI_mul8]; exact hK
def tX6_endOfPapers : List q_I := [(0, .iload_n 1, 1, 0, 0), (1, .bipush 8, 2, 8, 0), (3, .imul, 1, 0, 0), (4, .aload_n 0, 1, 0, 0), (5, .getfield 15, 3, 0, 0), (8, .iload_n 1, 1, 0, 0), (9, .iaload, 1, 0, 0), (10, .iadd, 1, 0, 0), (11, .ireturn, 1, 0, 0)]
theorem tX6_endOfPapers_ok : (tX6_endOfPapers.all (q_okI cX6_endOfPapers)) = true := by decide +kernel

abbrev fdX6_endOfPapers : List (Nat ⊕ (Nat × Nat)) := [.inl 0, .inr (0, 0), .inr (0, 1), .inr (0, 2), .inr (0, 3), .inr (0, 4), .inr (0, 5)]
def spX6_endOfPapers : q_P := fun a w K => ∃ (P : PT) (p : Nat), w = peopleW 0 P ∧ a = [.ref 0, .int (nI p)] ∧ pOk P ∧ p < P.2.2.2.2.2.2 ∧ K (.inl (some (.int (nI (p * 8 + pcN P p))))) (peopleW 0 P)
abbrev csX6_endOfPapers : q_S := (2, 6, 0, 2, 0, 0, fdX6_endOfPapers, spX6_endOfPapers)
def EX6_endOfPapers : q_E := (tX6_endOfPapers, [], 2, flX6, [], [], [], [], [], [], 0, 0, 0, (some .int), [], [], 0, 0)
theorem okX6_endOfPapers (l : Launch) : q_Eok l RX6 cX6_endOfPapers EX6_endOfPapers := ⟨tX6_endOfPapers_ok, flX6_ok, q_nil, q_nil, q_nil, q_nil, q_nil, q_nil, (fun h => absurd h (by decide))⟩
set_option maxRecDepth 100000 in
set_option maxHeartbeats 4000000 in
theorem ctX6_endOfPapers (l : Launch) : q_CT l yX6_endOfPapers (.code yX6_endOfPapers cX6_endOfPapers 2 (some .int)) 0 0 0 spX6_endOfPapers := by
  refine q_ct_of EX6_endOfPapers (by decide +kernel) (okX6_endOfPapers l) rfl rfl rfl rfl rfl q_nil (fun ci h => by cases h) rfl ?_
  intro a w K h
  obtain ⟨P, p, rfl, rfl, ho, hp, hK⟩ := h
  obtain ⟨h1, h2, h3, h4, h5⟩ := pOk_ix ho hp
  refine ⟨Nat.le_of_ble_eq_true rfl, fun C hC => hC _ _ _ _ _ _ ?_⟩
  refine ⟨h1, ?_⟩
  show K (.inl (some (.int _))) _
  rw [nI_mul8, h2, h3, nI_add]; exact hK
def tX6_hasPaperRoom : List q_I := [(0, .aload_n 0, 1, 0, 0), (1, .getfield 15, 3, 0, 0), (4, .iload_n 1, 1, 0, 0), (5, .iaload, 1, 0, 0), (6, .bipush 8, 2, 8, 0), (8, .if_icmp .ge 7, 3, 0, 15), (11, .iconst 1, 1, 1, 0), (12, .goto 4, 3, 0, 16), (15, .iconst 0, 1, 0, 0), (16, .ireturn, 1, 0, 0)]
theorem tX6_hasPaperRoom_ok : (tX6_hasPaperRoom.all (q_okI cX6_hasPaperRoom)) = true := by decide +kernel

abbrev fdX6_hasPaperRoom : List (Nat ⊕ (Nat × Nat)) := [.inl 0, .inr (0, 0), .inr (0, 1), .inr (0, 2), .inr (0, 3), .inr (0, 4), .inr (0, 5)]
def spX6_hasPaperRoom : q_P := fun a w K => ∃ (P : PT) (p : Nat), w = peopleW 0 P ∧ a = [.ref 0, .int (nI p)] ∧ pOk P ∧ p < P.2.2.2.2.2.2 ∧ K (.inl (some (.int (bI (decide (pcN P p < 8)))))) (peopleW 0 P)
abbrev csX6_hasPaperRoom : q_S := (2, 6, 0, 2, 0, 0, fdX6_hasPaperRoom, spX6_hasPaperRoom)
def EX6_hasPaperRoom : q_E := (tX6_hasPaperRoom, [], 2, flX6, [], [], [], [], [], [], 0, 0, 0, (some .boolean), [], [], 0, 0)
theorem okX6_hasPaperRoom (l : Launch) : q_Eok l RX6 cX6_hasPaperRoom EX6_hasPaperRoom := ⟨tX6_hasPaperRoom_ok, flX6_ok, q_nil, q_nil, q_nil, q_nil, q_nil, q_nil, (fun h => absurd h (by decide))⟩
set_option maxRecDepth 100000 in
set_option maxHeartbeats 4000000 in
theorem ctX6_hasPaperRoom (l : Launch) : q_CT l yX6_hasPaperRoom (.code yX6_hasPaperRoom cX6_hasPaperRoom 2 (some .boolean)) 0 0 0 spX6_hasPaperRoom := by
  refine q_ct_of EX6_hasPaperRoom (by decide +kernel) (okX6_hasPaperRoom l) rfl rfl rfl rfl rfl q_nil (fun ci h => by cases h) rfl ?_
  intro a w K h
  obtain ⟨P, p, rfl, rfl, ho, hp, hK⟩ := h
  obtain ⟨h1, h2, h3, h4, h5⟩ := pOk_ix ho hp
  refine ⟨Nat.le_of_ble_eq_true rfl, fun C hC => hC _ _ _ _ _ _ ?_⟩
  refine ⟨h1, And.intro (fun c => ⟨rfl, ?_⟩) (fun c => ⟨rfl, ?_⟩)⟩
  · have c : (8 : Int32) ≤ P.2.1 (nI p).toNatClampNeg := c
    rw [h2, h3] at c
    rw [bI_f (fun z => nI_ge (b := 8) z (by omega) c)] at hK; exact hK
  · have c : ¬ (8 : Int32) ≤ P.2.1 (nI p).toNatClampNeg := c
    rw [h2, h3] at c
    rw [bI_t (by rcases Nat.lt_or_ge (pcN P p) 8 with z | z; exact z; exact absurd (nI_le (a := 8) z (by omega)) c)] at hK; exact hK
def tX6_give : List q_I := [(0, .aload_n 0, 1, 0, 0), (1, .iload_n 1, 1, 0, 0), (2, .invokevirtual 34, 3, 0, 0), (5, .istore 6, 2, 0, 0), (7, .aload_n 0, 1, 0, 0), (8, .getfield 18, 3, 0, 0), (11, .iload 6, 2, 0, 0), (13, .iload_n 2, 1, 0, 0), (14, .iastore, 1, 0, 0), (15, .aload_n 0, 1, 0, 0), (16, .getfield 21, 3, 0, 0), (19, .iload 6, 2, 0, 0), (21, .iload_n 3, 1, 0, 0), (22, .iastore, 1, 0, 0), (23, .aload_n 0, 1, 0, 0), (24, .getfield 24, 3, 0, 0), (27, .iload 6, 2, 0, 0), (29, .iload 4, 2, 0, 0), (31, .iastore, 1, 0, 0), (32, .aload_n 0, 1, 0, 0), (33, .getfield 27, 3, 0, 0), (36, .iload 6, 2, 0, 0), (38, .iload 5, 2, 0, 0), (40, .iastore, 1, 0, 0), (41, .aload_n 0, 1, 0, 0), (42, .getfield 15, 3, 0, 0), (45, .iload_n 1, 1, 0, 0), (46, .dup2, 1, 0, 0), (47, .iaload, 1, 0, 0), (48, .iconst 1, 1, 1, 0), (49, .iadd, 1, 0, 0), (50, .iastore, 1, 0, 0), (51, .return_, 1, 0, 0)]
theorem tX6_give_ok : (tX6_give.all (q_okI cX6_give)) = true := by decide +kernel

abbrev fdX6_give : List (Nat ⊕ (Nat × Nat)) := [.inl 0, .inr (0, 0), .inr (0, 1), .inr (0, 2), .inr (0, 3), .inr (0, 4), .inr (0, 5)]
def spX6_give : q_P := fun a w K => ∃ (P : PT) (p : Nat) (k o f t : Int32), w = peopleW 0 P ∧ a = [.ref 0, .int (nI p), .int k, .int o, .int f, .int t] ∧ pOk P ∧ p < P.2.2.2.2.2.2 ∧ pcN P p < 8 ∧ K (.inl none) (peopleW 0 (peopleGive P p k o f t))
abbrev csX6_give : q_S := (6, 6, 1, 7, 0, 0, fdX6_give, spX6_give)
theorem coX6_34 (l : Launch) : q_CO l RX6 34 csX6_endOfPapers := ⟨yX6_endOfPapers, cX6_endOfPapers, (some .int), 1, ⟨by decide +kernel, by decide +kernel, by decide +kernel⟩, q_G_i 11 (by decide +kernel) rfl, Or.inl ⟨by decide, rfl, rfl, q_G_i 800 (by decide +kernel) rfl, q_G_i 801 (by decide +kernel) rfl, q_G_i 802 (by decide +kernel) rfl, Or.inl ⟨q_G_i 803 (by decide +kernel) rfl, ctX6_endOfPapers l⟩⟩⟩
def EX6_give : q_E := (tX6_give, [], 7, flX6, [(34, csX6_endOfPapers)], [], [], [], [], [], 1, 0, 0, none, [], [], 0, 0)
theorem okX6_give (l : Launch) : q_Eok l RX6 cX6_give EX6_give := ⟨tX6_give_ok, flX6_ok, List.forall_mem_cons.mpr ⟨(coX6_34 l), q_nil⟩, q_nil, q_nil, q_nil, q_nil, q_nil, (fun h => absurd h (by decide))⟩
set_option maxRecDepth 100000 in
set_option maxHeartbeats 4000000 in
theorem ctX6_give (l : Launch) : q_CT l yX6_give (.code yX6_give cX6_give 7 none) 1 0 0 spX6_give := by
  refine q_ct_of EX6_give (by decide +kernel) (okX6_give l) rfl rfl rfl rfl rfl q_nil (fun ci h => by cases h) rfl ?_
  intro a w K h
  obtain ⟨P, p, k, o, f, t, rfl, rfl, ho, hp, hr, hK⟩ := h
  obtain ⟨h1, h2, h3, h4, h5⟩ := pOk_ix ho hp
  refine ⟨Nat.le_of_ble_eq_true rfl, fun C hC => hC _ _ _ _ _ _ ?_⟩
  have hv : vp_in (nI (p * 8 + pcN P p)) 240 := vp_in_nI (by omega) (by omega)
  have hc : (nI (p * 8 + pcN P p)).toNatClampNeg = p * 8 + pcN P p := nI_clamp (by omega)
  refine ⟨P, p, rfl, rfl, ho, hp, hv, hv, hv, hv, h1, h1, ?_⟩
  show K (.inl none) _
  simp only [hc, h2, h3, nI_1]
  exact hK
def tX6_lasts : List q_I := [(0, .aload_n 0, 1, 0, 0), (1, .getfield 24, 3, 0, 0), (4, .iload_n 1, 1, 0, 0), (5, .iaload, 1, 0, 0), (6, .iload_n 2, 1, 0, 0), (7, .if_icmp .gt 17, 3, 0, 24), (10, .iload_n 2, 1, 0, 0), (11, .aload_n 0, 1, 0, 0), (12, .getfield 27, 3, 0, 0), (15, .iload_n 1, 1, 0, 0), (16, .iaload, 1, 0, 0), (17, .if_icmp .gt 7, 3, 0, 24), (20, .iconst 1, 1, 1, 0), (21, .goto 4, 3, 0, 25), (24, .iconst 0, 1, 0, 0), (25, .ireturn, 1, 0, 0)]
theorem tX6_lasts_ok : (tX6_lasts.all (q_okI cX6_lasts)) = true := by decide +kernel

abbrev fdX6_lasts : List (Nat ⊕ (Nat × Nat)) := [.inl 0, .inr (0, 0), .inr (0, 1), .inr (0, 2), .inr (0, 3), .inr (0, 4), .inr (0, 5)]
def spX6_lasts : q_P := fun a w K => ∃ (P : PT) (k : Nat) (d : Int32), w = peopleW 0 P ∧ a = [.ref 0, .int (nI k), .int d] ∧ k < 240 ∧ K (.inl (some (.int (bI (lastsP P d k))))) (peopleW 0 P)
abbrev csX6_lasts : q_S := (3, 6, 0, 3, 0, 0, fdX6_lasts, spX6_lasts)
def EX6_lasts : q_E := (tX6_lasts, [], 3, flX6, [], [], [], [], [], [], 0, 0, 0, (some .boolean), [], [], 0, 0)
theorem okX6_lasts (l : Launch) : q_Eok l RX6 cX6_lasts EX6_lasts := ⟨tX6_lasts_ok, flX6_ok, q_nil, q_nil, q_nil, q_nil, q_nil, q_nil, (fun h => absurd h (by decide))⟩
set_option maxRecDepth 100000 in
set_option maxHeartbeats 4000000 in
theorem ctX6_lasts (l : Launch) : q_CT l yX6_lasts (.code yX6_lasts cX6_lasts 3 (some .boolean)) 0 0 0 spX6_lasts := by
  refine q_ct_of EX6_lasts (by decide +kernel) (okX6_lasts l) rfl rfl rfl rfl rfl q_nil (fun ci h => by cases h) rfl ?_
  intro a w K h
  obtain ⟨P, k, d, rfl, rfl, hk, hK⟩ := h
  refine ⟨Nat.le_of_ble_eq_true rfl, fun C hC => hC _ _ _ _ _ _ ?_⟩
  have hv : vp_in (nI k) 240 := vp_in_nI (by omega) (by omega)
  have hc : (nI k).toNatClampNeg = k := nI_clamp (by omega)
  refine ⟨hv, And.intro (fun c => ⟨rfl, ?_⟩) (fun c => ⟨hv, And.intro (fun c2 => ⟨rfl, ?_⟩) (fun c2 => ⟨rfl, ?_⟩)⟩)⟩
  · have c : d < P.2.2.2.2.1 (nI k).toNatClampNeg := c
    rw [hc] at c
    rw [show lastsP P d k = false by simp only [lastsP, decide_eq_false (Int32.not_le.mpr c), Bool.false_and]] at hK; exact hK
  · have c2 : P.2.2.2.2.2.1 (nI k).toNatClampNeg < d := c2
    rw [hc] at c2
    rw [show lastsP P d k = false by simp only [lastsP, decide_eq_false (Int32.not_le.mpr c2), Bool.and_false]] at hK; exact hK
  · have c : ¬ d < P.2.2.2.2.1 (nI k).toNatClampNeg := c
    have c2 : ¬ P.2.2.2.2.2.1 (nI k).toNatClampNeg < d := c2
    rw [hc] at c c2
    rw [show lastsP P d k = true by simp only [lastsP, decide_eq_true (Int32.not_lt.mp c), decide_eq_true (Int32.not_lt.mp c2), Bool.and_self]] at hK; exact hK
def tX6_hasLasting : List q_I := [(0, .aload_n 0, 1, 0, 0), (1, .iload_n 1, 1, 0, 0), (2, .invokevirtual 34, 3, 0, 0), (5, .istore 4, 2, 0, 0), (7, .iload_n 1, 1, 0, 0), (8, .invokestatic 38, 3, 0, 0), (11, .istore 5, 2, 0, 0), (13, .iload 5, 2, 0, 0), (15, .iload 4, 2, 0, 0), (17, .if_icmp .ge 32, 3, 0, 49), (20, .aload_n 0, 1, 0, 0), (21, .getfield 18, 3, 0, 0), (24, .iload 5, 2, 0, 0), (26, .iaload, 1, 0, 0), (27, .iload_n 2, 1, 0, 0), (28, .if_icmp .ne 15, 3, 0, 43), (31, .aload_n 0, 1, 0, 0), (32, .iload 5, 2, 0, 0), (34, .iload_n 3, 1, 0, 0), (35, .invokevirtual 41, 3, 0, 0), (38, .ifCond .eq 5, 3, 0, 43), (41, .iconst 1, 1, 1, 0), (42, .ireturn, 1, 0, 0), (43, .iinc 5 1, 3, 1, 0), (46, .goto (-33), 3, 0, 13), (49, .iconst 0, 1, 0, 0), (50, .ireturn, 1, 0, 0)]
theorem tX6_hasLasting_ok : (tX6_hasLasting.all (q_okI cX6_hasLasting)) = true := by decide +kernel

abbrev fdX6_hasLasting : List (Nat ⊕ (Nat × Nat)) := [.inl 0, .inr (0, 0), .inr (0, 1), .inr (0, 2), .inr (0, 3), .inr (0, 4), .inr (0, 5)]
def spX6_hasLasting : q_P := fun a w K => ∃ (P : PT) (p : Nat) (k d : Int32), w = peopleW 0 P ∧ a = [.ref 0, .int (nI p), .int k, .int d] ∧ pOk P ∧ p < P.2.2.2.2.2.2 ∧ K (.inl (some (.int (bI (hasLast P p k d))))) (peopleW 0 P)
abbrev csX6_hasLasting : q_S := (4, 6, 1, 6, 0, 0, fdX6_hasLasting, spX6_hasLasting)
theorem coX6_38 (l : Launch) : q_CO l RX6 38 csX6_firstPaper := ⟨yX6_firstPaper, cX6_firstPaper, (some .int), 1, ⟨by decide +kernel, by decide +kernel, by decide +kernel⟩, q_G_i 11 (by decide +kernel) rfl, Or.inr (Or.inr (Or.inr ⟨rfl, rfl, q_G_i 831 (by decide +kernel) rfl, q_G_i 809 (by decide +kernel) rfl, Or.inl ⟨q_G_i 810 (by decide +kernel) rfl, ctX6_firstPaper l⟩⟩))⟩
theorem coX6_41 (l : Launch) : q_CO l RX6 41 csX6_lasts := ⟨yX6_lasts, cX6_lasts, (some .boolean), 2, ⟨by decide +kernel, by decide +kernel, by decide +kernel⟩, q_G_i 11 (by decide +kernel) rfl, Or.inl ⟨by decide, rfl, rfl, q_G_i 832 (by decide +kernel) rfl, q_G_i 834 (by decide +kernel) rfl, q_G_s (n := 7) 24 (by decide +kernel), Or.inl ⟨q_G_i 835 (by decide +kernel) rfl, ctX6_lasts l⟩⟩⟩
def EX6_hasLasting : q_E := (tX6_hasLasting, [(13, [0, 1, 2, 3, 4, 5])], 6, flX6, [(34, csX6_endOfPapers), (38, csX6_firstPaper), (41, csX6_lasts)], [], [], [], [], [], 1, 0, 0, (some .boolean), [], [], 0, 0)
theorem okX6_hasLasting (l : Launch) : q_Eok l RX6 cX6_hasLasting EX6_hasLasting := ⟨tX6_hasLasting_ok, flX6_ok, List.forall_mem_cons.mpr ⟨(coX6_34 l), List.forall_mem_cons.mpr ⟨(coX6_38 l), List.forall_mem_cons.mpr ⟨(coX6_41 l), q_nil⟩⟩⟩, q_nil, q_nil, q_nil, q_nil, q_nil, (fun h => absurd h (by decide))⟩
set_option maxRecDepth 100000 in
set_option maxHeartbeats 4000000 in
theorem ctX6_hasLasting (l : Launch) : q_CT l yX6_hasLasting (.code yX6_hasLasting cX6_hasLasting 6 (some .boolean)) 1 0 0 spX6_hasLasting := by
  refine q_ct_of EX6_hasLasting (by decide +kernel) (okX6_hasLasting l) rfl rfl rfl rfl rfl q_nil (fun ci h => by cases h) rfl ?_
  intro a w K h
  obtain ⟨P, p, k, d, rfl, rfl, ho, hp, hK⟩ := h
  obtain ⟨h1, h2, h3, h4, h5⟩ := pOk_ix ho hp
  refine ⟨Nat.le_of_ble_eq_true rfl, fun C hC => ?_⟩
  have loop : ∀ n s, s + n = p * 8 + pcN P p → hasLast P p k d = anyF (fun i => decide (P.2.2.1 i = k) && lastsP P d i) s n → C 13 [(0, .ref 0), (1, .int (nI p)), (2, .int k), (3, .int d), (4, .int (nI (p * 8 + pcN P p))), (5, .int (nI s))] [] (peopleW 0 P) 0 0 := by
    intro n
    induction n with
    | zero =>
      intro s hs he
      refine hC _ _ _ _ _ _ ?_
      refine And.intro (fun c1 => ⟨rfl, ?_⟩) (fun c1 => absurd (nI_le (by omega) (by omega)) c1)
      rw [he] at hK; exact hK
    | succ n ih =>
      intro s hs he
      have hv : vp_in (nI s) 240 := vp_in_nI (by omega) (by omega)
      have hc : (nI s).toNatClampNeg = s := nI_clamp (by omega)
      refine hC _ _ _ _ _ _ ?_
      have next : (decide (P.2.2.1 s = k) && lastsP P d s) = false → C 13 [(0, .ref 0), (1, .int (nI p)), (2, .int k), (3, .int d), (4, .int (nI (p * 8 + pcN P p))), (5, .int (nI s + 1))] [] (peopleW 0 P) 0 0 := by
        intro hf
        rw [nI_1]
        exact ih (s + 1) (by omega) (by rw [he, anyF, hf]; rfl)
      refine And.intro (fun c1 => absurd c1 (nI_ge (by omega) (by omega))) (fun c1 => ?_)
      refine And.intro hv (And.intro (fun c2 => next ?_) (fun c2 => ?_))
      · rw [hc] at c2; simp only [decide_eq_false c2, Bool.false_and]
      refine ⟨P, s, _, rfl, rfl, by omega, And.intro (fun c3 => next ?_) (fun c3 => ⟨rfl, ?_⟩)⟩
      · rw [bI_0.mp c3, Bool.and_false]
      · rw [hc] at c2
        rw [he, anyF, bI_n0.mp c3, decide_eq_true c2] at hK; exact hK
  exact hC _ _ _ _ _ _ ⟨P, p, rfl, rfl, ho, hp, p, rfl, rfl, loop (pcN P p) (p * 8) rfl rfl⟩
def tX6_hasGood : List q_I := [(0, .aload_n 0, 1, 0, 0), (1, .iload_n 1, 1, 0, 0), (2, .invokevirtual 34, 3, 0, 0), (5, .istore 6, 2, 0, 0), (7, .iload_n 1, 1, 0, 0), (8, .invokestatic 38, 3, 0, 0), (11, .istore 7, 2, 0, 0), (13, .iload 7, 2, 0, 0), (15, .iload 6, 2, 0, 0), (17, .if_icmp .ge 52, 3, 0, 69), (20, .aload_n 0, 1, 0, 0), (21, .getfield 18, 3, 0, 0), (24, .iload 7, 2, 0, 0), (26, .iaload, 1, 0, 0), (27, .iload_n 2, 1, 0, 0), (28, .if_icmp .ne 35, 3, 0, 63), (31, .aload_n 0, 1, 0, 0), (32, .iload 7, 2, 0, 0), (34, .iload 4, 2, 0, 0), (36, .invokevirtual 41, 3, 0, 0), (39, .ifCond .eq 24, 3, 0, 63), (42, .aload 5, 2, 0, 0), (44, .iload 4, 2, 0, 0), (46, .iload_n 3, 1, 0, 0), (47, .iload_n 2, 1, 0, 0), (48, .aload_n 0, 1, 0, 0), (49, .getfield 21, 3, 0, 0), (52, .iload 7, 2, 0, 0), (54, .iaload, 1, 0, 0), (55, .invokevirtual 45, 3, 0, 0), (58, .ifCond .eq 5, 3, 0, 63), (61, .iconst 1, 1, 1, 0), (62, .ireturn, 1, 0, 0), (63, .iinc 7 1, 3, 1, 0), (66, .goto (-53), 3, 0, 13), (69, .iconst 0, 1, 0, 0), (70, .ireturn, 1, 0, 0)]
theorem tX6_hasGood_ok : (tX6_hasGood.all (q_okI cX6_hasGood)) = true := by decide +kernel

abbrev fdX6_hasGood : List (Nat ⊕ (Nat × Nat)) := [.inl 0, .inr (0, 0), .inr (0, 1), .inr (0, 2), .inr (0, 3), .inr (0, 4), .inr (0, 5), .inl 5, .inr (7, 0), .inr (7, 1), .inr (7, 2), .inr (7, 3), .inr (7, 4), .inr (7, 5), .inr (7, 6)]
def spX6_hasGood : q_P := fun a w K => ∃ (P : PT) (L : LT) (p : Nat) (k x d : Int32), w = peopleW 0 P ++ lawsW 7 L ∧ a = [.ref 0, .int (nI p), .int k, .int x, .int d, .ref 7] ∧ pOk P ∧ L_n L ≤ 24 ∧ p < P.2.2.2.2.2.2 ∧ K (.inl (some (.int (bI (hasGd P L p k x d))))) (peopleW 0 P ++ lawsW 7 L)
abbrev csX6_hasGood : q_S := (6, 6, 2, 8, 0, 0, fdX6_hasGood, spX6_hasGood)
theorem coX6_45 (l : Launch) : q_CO l RX6 45 csX3_acceptOn := ⟨yX3_acceptOn, cX3_acceptOn, (some .boolean), 4, ⟨by decide +kernel, by decide +kernel, by decide +kernel⟩, q_G_i 4 (by decide +kernel) rfl, Or.inl ⟨by decide, rfl, rfl, q_G_i 836 (by decide +kernel) rfl, q_G_i 837 (by decide +kernel) rfl, q_G_i 838 (by decide +kernel) rfl, Or.inl ⟨q_G_i 839 (by decide +kernel) rfl, ctX3_acceptOn l⟩⟩⟩
def EX6_hasGood : q_E := (tX6_hasGood, [(13, [0, 1, 2, 3, 4, 5, 6, 7])], 8, flX6, [(34, csX6_endOfPapers), (38, csX6_firstPaper), (41, csX6_lasts), (45, csX3_acceptOn)], [], [], [], [], [], 2, 0, 0, (some .boolean), [], [], 0, 0)
theorem okX6_hasGood (l : Launch) : q_Eok l RX6 cX6_hasGood EX6_hasGood := ⟨tX6_hasGood_ok, flX6_ok, List.forall_mem_cons.mpr ⟨(coX6_34 l), List.forall_mem_cons.mpr ⟨(coX6_38 l), List.forall_mem_cons.mpr ⟨(coX6_41 l), List.forall_mem_cons.mpr ⟨(coX6_45 l), q_nil⟩⟩⟩⟩, q_nil, q_nil, q_nil, q_nil, q_nil, (fun h => absurd h (by decide))⟩
set_option maxRecDepth 100000 in
set_option maxHeartbeats 4000000 in
theorem ctX6_hasGood (l : Launch) : q_CT l yX6_hasGood (.code yX6_hasGood cX6_hasGood 8 (some .boolean)) 2 0 0 spX6_hasGood := by
  refine q_ct_of EX6_hasGood (by decide +kernel) (okX6_hasGood l) rfl rfl rfl rfl rfl q_nil (fun ci h => by cases h) rfl ?_
  intro a w K h
  obtain ⟨P, L, p, k, x, d, rfl, rfl, ho, hL, hp, hK⟩ := h
  obtain ⟨h1, h2, h3, h4, h5⟩ := pOk_ix ho hp
  refine ⟨Nat.le_of_ble_eq_true rfl, fun C hC => ?_⟩
  have loop : ∀ n s, s + n = p * 8 + pcN P p → hasGd P L p k x d = anyF (fun i => decide (P.2.2.1 i = k) && (lastsP P d i && accOn L d x k (P.2.2.2.1 i))) s n → C 13 [(0, .ref 0), (1, .int (nI p)), (2, .int k), (3, .int x), (4, .int d), (5, .ref 7), (6, .int (nI (p * 8 + pcN P p))), (7, .int (nI s))] [] (peopleW 0 P ++ lawsW 7 L) 0 0 := by
    intro n
    induction n with
    | zero =>
      intro s hs he
      refine hC _ _ _ _ _ _ ?_
      refine And.intro (fun c1 => ⟨rfl, ?_⟩) (fun c1 => absurd (nI_le (by omega) (by omega)) c1)
      rw [he] at hK; exact hK
    | succ n ih =>
      intro s hs he
      have hv : vp_in (nI s) 240 := vp_in_nI (by omega) (by omega)
      have hc : (nI s).toNatClampNeg = s := nI_clamp (by omega)
      refine hC _ _ _ _ _ _ ?_
      have next : (decide (P.2.2.1 s = k) && (lastsP P d s && accOn L d x k (P.2.2.2.1 s))) = false → C 13 [(0, .ref 0), (1, .int (nI p)), (2, .int k), (3, .int x), (4, .int d), (5, .ref 7), (6, .int (nI (p * 8 + pcN P p))), (7, .int (nI s + 1))] [] (peopleW 0 P ++ lawsW 7 L) 0 0 := by
        intro hf
        rw [nI_1]
        exact ih (s + 1) (by omega) (by rw [he, anyF, hf]; rfl)
      refine And.intro (fun c1 => absurd c1 (nI_ge (by omega) (by omega))) (fun c1 => ?_)
      refine And.intro hv (And.intro (fun c2 => next ?_) (fun c2 => ?_))
      · rw [hc] at c2; simp only [decide_eq_false c2, Bool.false_and]
      refine ⟨P, s, _, rfl, rfl, by omega, And.intro (fun c3 => next ?_) (fun c3 => ?_)⟩
      · rw [bI_0.mp c3, Bool.false_and, Bool.and_false]
      refine ⟨hv, L, _, _, _, _, rfl, rfl, hL, And.intro (fun c4 => next ?_) (fun c4 => ⟨rfl, ?_⟩)⟩
      · have c4 := bI_0.mp c4
        rw [hc] at c4
        rw [c4, Bool.and_false, Bool.and_false]
      · have c4 := bI_n0.mp c4
        rw [hc] at c2 c4
        rw [he, anyF, bI_n0.mp c3, c4, decide_eq_true c2] at hK; exact hK
  exact hC _ _ _ _ _ _ ⟨P, p, rfl, rfl, ho, hp, p, rfl, rfl, loop (pcN P p) (p * 8) rfl rfl⟩
def tX6_dayHad : List q_I := [(0, .ldc 64, 2, 0, 0), (2, .istore 5, 2, 0, 0), (4, .aload_n 0, 1, 0, 0), (5, .iload_n 1, 1, 0, 0), (6, .invokevirtual 34, 3, 0, 0), (9, .istore 6, 2, 0, 0), (11, .iload_n 1, 1, 0, 0), (12, .invokestatic 38, 3, 0, 0), (15, .istore 7, 2, 0, 0), (17, .iload 7, 2, 0, 0), (19, .iload 6, 2, 0, 0), (21, .if_icmp .ge 62, 3, 0, 83), (24, .aload_n 0, 1, 0, 0), (25, .getfield 18, 3, 0, 0), (28, .iload 7, 2, 0, 0), (30, .iaload, 1, 0, 0), (31, .iload_n 2, 1, 0, 0), (32, .if_icmp .ne 45, 3, 0, 77), (35, .aload_n 0, 1, 0, 0), (36, .getfield 21, 3, 0, 0), (39, .iload 7, 2, 0, 0), (41, .iaload, 1, 0, 0), (42, .iload_n 3, 1, 0, 0), (43, .if_icmp .ne 34, 3, 0, 77), (46, .iload 4, 2, 0, 0), (48, .aload_n 0, 1, 0, 0), (49, .getfield 27, 3, 0, 0), (52, .iload 7, 2, 0, 0), (54, .iaload, 1, 0, 0), (55, .if_icmp .gt 22, 3, 0, 77), (58, .iload 5, 2, 0, 0), (60, .aload_n 0, 1, 0, 0), (61, .getfield 24, 3, 0, 0), (64, .iload 7, 2, 0, 0), (66, .iaload, 1, 0, 0), (67, .iload 4, 2, 0, 0), (69, .invokestatic 65, 3, 0, 0), (72, .invokestatic 71, 3, 0, 0), (75, .istore 5, 2, 0, 0), (77, .iinc 7 1, 3, 1, 0), (80, .goto (-63), 3, 0, 17), (83, .iload 5, 2, 0, 0), (85, .ireturn, 1, 0, 0)]
theorem tX6_dayHad_ok : (tX6_dayHad.all (q_okI cX6_dayHad)) = true := by decide +kernel

abbrev fdX6_dayHad : List (Nat ⊕ (Nat × Nat)) := [.inl 0, .inr (0, 0), .inr (0, 1), .inr (0, 2), .inr (0, 3), .inr (0, 4), .inr (0, 5)]
def spX6_dayHad : q_P := fun a w K => ∃ (P : PT) (p : Nat) (k o e : Int32), w = peopleW 0 P ∧ a = [.ref 0, .int (nI p), .int k, .int o, .int e] ∧ pOk P ∧ p < P.2.2.2.2.2.2 ∧ K (.inl (some (.int (dayHd P p k o e)))) (peopleW 0 P)
abbrev csX6_dayHad : q_S := (5, 6, 1, 8, 0, 0, fdX6_dayHad, spX6_dayHad)
def EX6_dayHad : q_E := (tX6_dayHad, [(17, [0, 1, 2, 3, 4, 5, 6, 7])], 8, flX6, [(34, csX6_endOfPapers), (38, csX6_firstPaper)], [], [(64, 1000000)], [], [], [(65, 1), (71, 2)], 1, 0, 0, (some .int), [], [], 0, 0)
theorem okX6_dayHad (l : Launch) : q_Eok l RX6 cX6_dayHad EX6_dayHad := ⟨tX6_dayHad_ok, flX6_ok, List.forall_mem_cons.mpr ⟨(coX6_34 l), List.forall_mem_cons.mpr ⟨(coX6_38 l), q_nil⟩⟩, q_nil, List.forall_mem_cons.mpr ⟨q_G_i 905 (by decide +kernel) rfl, q_nil⟩, q_nil, List.forall_mem_cons.mpr ⟨Or.inr (Or.inl ⟨rfl, q_G_i 1029 (by decide +kernel) rfl⟩), List.forall_mem_cons.mpr ⟨Or.inr (Or.inr ⟨rfl, q_G_i 1032 (by decide +kernel) rfl⟩), q_nil⟩⟩, q_nil, (fun h => absurd h (by decide))⟩
set_option maxRecDepth 100000 in
set_option maxHeartbeats 4000000 in
theorem ctX6_dayHad (l : Launch) : q_CT l yX6_dayHad (.code yX6_dayHad cX6_dayHad 8 (some .int)) 1 0 0 spX6_dayHad := by
  refine q_ct_of EX6_dayHad (by decide +kernel) (okX6_dayHad l) rfl rfl rfl rfl rfl q_nil (fun ci h => by cases h) rfl ?_
  intro a w K h
  obtain ⟨P, p, k, o, e, rfl, rfl, ho, hp, hK⟩ := h
  obtain ⟨h1, h2, h3, h4, h5⟩ := pOk_ix ho hp
  refine ⟨Nat.le_of_ble_eq_true rfl, fun C hC => ?_⟩
  have loop : ∀ n s x, s + n = p * 8 + pcN P p → dayHd P p k o e = foldF (fun x i => if P.2.2.1 i = k ∧ P.2.2.2.1 i = o ∧ e ≤ P.2.2.2.2.2.1 i then mnI x (mxI (P.2.2.2.2.1 i) e) else x) s n x → C 17 [(0, .ref 0), (1, .int (nI p)), (2, .int k), (3, .int o), (4, .int e), (5, .int x), (6, .int (nI (p * 8 + pcN P p))), (7, .int (nI s))] [] (peopleW 0 P) 0 0 := by
    intro n
    induction n with
    | zero =>
      intro s x hs he
      refine hC _ _ _ _ _ _ ?_
      refine And.intro (fun c1 => ?_) (fun c1 => absurd (nI_le (by omega) (by omega)) c1)
      rw [he] at hK; exact hK
    | succ n ih =>
      intro s x hs he
      have hv : vp_in (nI s) 240 := vp_in_nI (by omega) (by omega)
      have hc : (nI s).toNatClampNeg = s := nI_clamp (by omega)
      refine hC _ _ _ _ _ _ ?_
      have next : ∀ x', x' = (if P.2.2.1 s = k ∧ P.2.2.2.1 s = o ∧ e ≤ P.2.2.2.2.2.1 s then mnI x (mxI (P.2.2.2.2.1 s) e) else x) → C 17 [(0, .ref 0), (1, .int (nI p)), (2, .int k), (3, .int o), (4, .int e), (5, .int x'), (6, .int (nI (p * 8 + pcN P p))), (7, .int (nI s + 1))] [] (peopleW 0 P) 0 0 := by
        intro x' hx
        rw [nI_1]
        exact ih (s + 1) x' (by omega) (by rw [he, foldF, hx])
      refine And.intro (fun c1 => absurd c1 (nI_ge (by omega) (by omega))) (fun c1 => ?_)
      refine And.intro hv (And.intro (fun c2 => next _ ?_) (fun c2 => ?_))
      · rw [hc] at c2; rw [if_neg (fun z => c2 z.1)]
      refine And.intro hv (And.intro (fun c3 => next _ ?_) (fun c3 => ?_))
      · rw [hc] at c3; rw [if_neg (fun z => c3 z.2.1)]
      refine And.intro hv (And.intro (fun c4 => next _ ?_) (fun c4 => ?_))
      · rw [hc] at c4; rw [if_neg (fun z => Int32.not_le.mpr c4 z.2.2)]
      refine ⟨hv, next _ ?_⟩
      rw [hc] at c2 c3 c4
      rw [if_pos ⟨c2, c3, Int32.not_lt.mp c4⟩, hc]
  exact hC _ _ _ _ _ _ ⟨P, p, rfl, rfl, ho, hp, p, rfl, rfl, loop (pcN P p) (p * 8) _ rfl rfl⟩
def tX6_beginningBehind : List q_I := [(0, .ldc 64, 2, 0, 0), (2, .istore 4, 2, 0, 0), (4, .aload_n 0, 1, 0, 0), (5, .iload_n 2, 1, 0, 0), (6, .invokevirtual 34, 3, 0, 0), (9, .istore 5, 2, 0, 0), (11, .iload_n 2, 1, 0, 0), (12, .invokestatic 38, 3, 0, 0), (15, .istore 6, 2, 0, 0), (17, .iload 6, 2, 0, 0), (19, .iload 5, 2, 0, 0), (21, .if_icmp .ge 35, 3, 0, 56), (24, .aload_n 0, 1, 0, 0), (25, .getfield 18, 3, 0, 0), (28, .iload 6, 2, 0, 0), (30, .iaload, 1, 0, 0), (31, .iload_n 3, 1, 0, 0), (32, .if_icmp .ne 18, 3, 0, 50), (35, .iload 4, 2, 0, 0), (37, .aload_n 0, 1, 0, 0), (38, .getfield 24, 3, 0, 0), (41, .iload 6, 2, 0, 0), (43, .iaload, 1, 0, 0), (44, .iload_n 1, 1, 0, 0), (45, .invokestatic 74, 3, 0, 0), (48, .istore 4, 2, 0, 0), (50, .iinc 6 1, 3, 1, 0), (53, .goto (-36), 3, 0, 17), (56, .iload 4, 2, 0, 0), (58, .ireturn, 1, 0, 0)]
theorem tX6_beginningBehind_ok : (tX6_beginningBehind.all (q_okI cX6_beginningBehind)) = true := by decide +kernel

abbrev fdX6_beginningBehind : List (Nat ⊕ (Nat × Nat)) := [.inl 0, .inr (0, 0), .inr (0, 1), .inr (0, 2), .inr (0, 3), .inr (0, 4), .inr (0, 5)]
def spX6_beginningBehind : q_P := fun a w K => ∃ (P : PT) (d : Int32) (p : Nat) (k : Int32), w = peopleW 0 P ∧ a = [.ref 0, .int d, .int (nI p), .int k] ∧ pOk P ∧ p < P.2.2.2.2.2.2 ∧ K (.inl (some (.int (begB P d p k)))) (peopleW 0 P)
abbrev csX6_beginningBehind : q_S := (4, 6, 1, 7, 0, 0, fdX6_beginningBehind, spX6_beginningBehind)
theorem coX6_74 (l : Launch) : q_CO l RX6 74 csX3_sooner := ⟨yX3_sooner, cX3_sooner, (some .int), 3, ⟨by decide +kernel, by decide +kernel, by decide +kernel⟩, q_G_i 4 (by decide +kernel) rfl, Or.inr (Or.inr (Or.inr ⟨rfl, rfl, q_G_i 906 (by decide +kernel) rfl, q_G_i 899 (by decide +kernel) rfl, Or.inl ⟨q_G_i 900 (by decide +kernel) rfl, ctX3_sooner l⟩⟩))⟩
def EX6_beginningBehind : q_E := (tX6_beginningBehind, [(17, [0, 1, 2, 3, 4, 5, 6])], 7, flX6, [(34, csX6_endOfPapers), (38, csX6_firstPaper), (74, csX3_sooner)], [], [(64, 1000000)], [], [], [], 1, 0, 0, (some .int), [], [], 0, 0)
theorem okX6_beginningBehind (l : Launch) : q_Eok l RX6 cX6_beginningBehind EX6_beginningBehind := ⟨tX6_beginningBehind_ok, flX6_ok, List.forall_mem_cons.mpr ⟨(coX6_34 l), List.forall_mem_cons.mpr ⟨(coX6_38 l), List.forall_mem_cons.mpr ⟨(coX6_74 l), q_nil⟩⟩⟩, q_nil, List.forall_mem_cons.mpr ⟨q_G_i 905 (by decide +kernel) rfl, q_nil⟩, q_nil, q_nil, q_nil, (fun h => absurd h (by decide))⟩
set_option maxRecDepth 100000 in
set_option maxHeartbeats 4000000 in
theorem ctX6_beginningBehind (l : Launch) : q_CT l yX6_beginningBehind (.code yX6_beginningBehind cX6_beginningBehind 7 (some .int)) 1 0 0 spX6_beginningBehind := by
  refine q_ct_of EX6_beginningBehind (by decide +kernel) (okX6_beginningBehind l) rfl rfl rfl rfl rfl q_nil (fun ci h => by cases h) rfl ?_
  intro a w K h
  obtain ⟨P, d, p, k, rfl, rfl, ho, hp, hK⟩ := h
  obtain ⟨h1, h2, h3, h4, h5⟩ := pOk_ix ho hp
  refine ⟨Nat.le_of_ble_eq_true rfl, fun C hC => ?_⟩
  have loop : ∀ n s x, s + n = p * 8 + pcN P p → begB P d p k = foldF (fun x i => if P.2.2.1 i = k then soon x (P.2.2.2.2.1 i) d else x) s n x → C 17 [(0, .ref 0), (1, .int d), (2, .int (nI p)), (3, .int k), (4, .int x), (5, .int (nI (p * 8 + pcN P p))), (6, .int (nI s))] [] (peopleW 0 P) 0 0 := by
    intro n
    induction n with
    | zero =>
      intro s x hs he
      refine hC _ _ _ _ _ _ ?_
      refine And.intro (fun c1 => ?_) (fun c1 => absurd (nI_le (by omega) (by omega)) c1)
      rw [he] at hK; exact hK
    | succ n ih =>
      intro s x hs he
      have hv : vp_in (nI s) 240 := vp_in_nI (by omega) (by omega)
      have hc : (nI s).toNatClampNeg = s := nI_clamp (by omega)
      refine hC _ _ _ _ _ _ ?_
      have next : ∀ x', x' = (if P.2.2.1 s = k then soon x (P.2.2.2.2.1 s) d else x) → C 17 [(0, .ref 0), (1, .int d), (2, .int (nI p)), (3, .int k), (4, .int x'), (5, .int (nI (p * 8 + pcN P p))), (6, .int (nI s + 1))] [] (peopleW 0 P) 0 0 := by
        intro x' hx
        rw [nI_1]
        exact ih (s + 1) x' (by omega) (by rw [he, foldF, hx])
      refine And.intro (fun c1 => absurd c1 (nI_ge (by omega) (by omega))) (fun c1 => ?_)
      refine And.intro hv (And.intro (fun c2 => next _ ?_) (fun c2 => ?_))
      · rw [hc] at c2; rw [if_neg c2]
      refine ⟨hv, _, _, _, rfl, rfl, next _ ?_⟩
      rw [hc] at c2
      rw [if_pos c2, hc]
  exact hC _ _ _ _ _ _ ⟨P, p, rfl, rfl, ho, hp, p, rfl, rfl, loop (pcN P p) (p * 8) _ rfl rfl⟩
def tX6_goodLands : List q_I := [(0, .iconst 0, 1, 0, 0), (1, .istore 5, 2, 0, 0), (3, .iconst 0, 1, 0, 0), (4, .istore 6, 2, 0, 0), (6, .iload 6, 2, 0, 0), (8, .aload 4, 2, 0, 0), (10, .getfield 51, 3, 0, 0), (13, .iconst 1, 1, 1, 0), (14, .iaload, 1, 0, 0), (15, .if_icmp .ge 35, 3, 0, 50), (18, .aload_n 0, 1, 0, 0), (19, .iload_n 1, 1, 0, 0), (20, .iload_n 2, 1, 0, 0), (21, .iload 6, 2, 0, 0), (23, .iload_n 3, 1, 0, 0), (24, .aload 4, 2, 0, 0), (26, .getfield 56, 3, 0, 0), (29, .invokevirtual 60, 3, 0, 0), (32, .ifCond .eq 12, 3, 0, 44), (35, .iload 5, 2, 0, 0), (37, .iconst 1, 1, 1, 0), (38, .iload 6, 2, 0, 0), (40, .ishl, 1, 0, 0), (41, .ior, 1, 0, 0), (42, .istore 5, 2, 0, 0), (44, .iinc 6 1, 3, 1, 0), (47, .goto (-41), 3, 0, 6), (50, .iload 5, 2, 0, 0), (52, .ireturn, 1, 0, 0)]
theorem tX6_goodLands_ok : (tX6_goodLands.all (q_okI cX6_goodLands)) = true := by decide +kernel

abbrev fdX6_goodLands : List (Nat ⊕ (Nat × Nat)) := [.inl 0, .inr (0, 0), .inr (0, 1), .inr (0, 2), .inr (0, 3), .inr (0, 4), .inr (0, 5), .inl 4, .inr (7, 0), .inr (7, 6), .inr (9, 0), .inr (9, 1), .inr (9, 2), .inr (9, 3), .inr (9, 4), .inr (9, 5), .inr (9, 6)]
def spX6_goodLands : q_P := fun a w K => ∃ (P : PT) (L : LT) (told : Nat → Int32) (n p : Nat) (k d : Int32) (v1 v2 v3 v4 v5 v7 : Value), w = peopleW 0 P ++ ([.inr (0, [.ref 8, v1, v2, v3, v4, v5, .ref 9, v7]), .inl (1, 4, .inl told)] ++ lawsW 9 L) ∧ a = [.ref 0, .int (nI p), .int k, .int d, .ref 7] ∧ pOk P ∧ L_n L ≤ 24 ∧ p < P.2.2.2.2.2.2 ∧ told 1 = nI n ∧ n ≤ 5 ∧ K (.inl (some (.int (landsG P L p k d n)))) w
abbrev csX6_goodLands : q_S := (5, 6, 3, 7, 0, 0, fdX6_goodLands, spX6_goodLands)
theorem coX6_60 (l : Launch) : q_CO l RX6 60 csX6_hasGood := ⟨yX6_hasGood, cX6_hasGood, (some .boolean), 5, ⟨by decide +kernel, by decide +kernel, by decide +kernel⟩, q_G_i 11 (by decide +kernel) rfl, Or.inl ⟨by decide, rfl, rfl, q_G_i 827 (by decide +kernel) rfl, q_G_i 828 (by decide +kernel) rfl, q_G_i 829 (by decide +kernel) rfl, Or.inl ⟨q_G_i 830 (by decide +kernel) rfl, ctX6_hasGood l⟩⟩⟩
def EX6_goodLands : q_E := (tX6_goodLands, [(6, [0, 1, 2, 3, 4, 5, 6])], 7, flX6, [(60, csX6_hasGood)], [], [], [], [], [], 3, 0, 0, (some .int), [], [], 0, 0)
theorem okX6_goodLands (l : Launch) : q_Eok l RX6 cX6_goodLands EX6_goodLands := ⟨tX6_goodLands_ok, flX6_ok, List.forall_mem_cons.mpr ⟨(coX6_60 l), q_nil⟩, q_nil, q_nil, q_nil, q_nil, q_nil, (fun h => absurd h (by decide))⟩
set_option maxRecDepth 100000 in
set_option maxHeartbeats 4000000 in
theorem ctX6_goodLands (l : Launch) : q_CT l yX6_goodLands (.code yX6_goodLands cX6_goodLands 7 (some .int)) 3 0 0 spX6_goodLands := by
  refine q_ct_of EX6_goodLands (by decide +kernel) (okX6_goodLands l) rfl rfl rfl rfl rfl q_nil (fun ci h => by cases h) rfl ?_
  intro a w K h
  obtain ⟨P, L, told, n, p, k, d, v1, v2, v3, v4, v5, v7, rfl, rfl, ho, hL, hp, ht, hn, hK⟩ := h
  refine ⟨Nat.le_of_ble_eq_true rfl, fun C hC => ?_⟩
  have loop : ∀ m i, i + m = n → C 6 [(0, .ref 0), (1, .int (nI p)), (2, .int k), (3, .int d), (4, .ref 7), (5, .int (landsG P L p k d i)), (6, .int (nI i))] [] (peopleW 0 P ++ ([.inr (0, [.ref 8, v1, v2, v3, v4, v5, .ref 9, v7]), .inl (1, 4, .inl told)] ++ lawsW 9 L)) 0 0 := by
    intro m
    induction m with
    | zero =>
      intro i hi
      have hi : i = n := by omega
      subst hi
      refine hC _ _ _ _ _ _ ?_
      refine ⟨vp_in_nI (n := 1) (by decide) (by decide), And.intro (fun c1 => hK) (fun c1 => absurd (by show told 1 ≤ nI i; rw [ht]; exact Int32.le_refl _) c1)⟩
    | succ m ih =>
      intro i hi
      refine hC _ _ _ _ _ _ ?_
      refine ⟨vp_in_nI (n := 1) (by decide) (by decide), And.intro (fun c1 => absurd (show told 1 ≤ nI i from c1) (by rw [ht]; exact nI_ge (by omega) (by omega))) (fun c1 => ?_)⟩
      refine ⟨P, L, p, _, _, _, rfl, rfl, ho, hL, hp, And.intro (fun c2 => ?_) (fun c2 => ?_)⟩
      · have h9 := ih (i + 1) (by omega)
        rw [landsG, if_neg (by rw [bI_0.mp c2]; decide), ← nI_1] at h9
        exact h9
      · have h9 := ih (i + 1) (by omega)
        rw [landsG, if_pos (bI_n0.mp c2), ← nI_1] at h9
        exact h9
  exact hC _ _ _ _ _ _ (loop n 0 (by omega))
